import java.nio.file.Files;
import java.nio.file.Path;
import java.util.Set;
import java.util.TreeSet;
import java.util.regex.MatchResult;
import java.util.regex.Pattern;
import java.util.stream.Collectors;
import java.util.stream.Stream;

/** Whether the list of sentences and the tests of the boundaries name the same tests. */
public final class SentencesTest {
  private static final Path TESTS = Path.of("src/test/java");

  public static void main(String[] args) throws Exception {
    Set<String> named = Pattern.compile("\\b[A-Z]\\w+\\.[a-z]\\w+\\b").matcher(Files.readString(Path.of("src/test/SENTENCES.md")))
        .results().map(MatchResult::group).filter(name -> !name.endsWith(".md") && !name.endsWith(".java"))
        .collect(Collectors.toCollection(TreeSet::new));
    Kit.due("tests are named", named.size() > 150, true);
    for (String name : named) {
      Path file = TESTS.resolve(name.replaceAll("\\..*", ".java"));
      String method = name.replaceAll(".*\\.", "");
      boolean isThere = Files.exists(file) && Files.readString(file).contains(" void " + method + "(");
      Kit.due(name + " is there", isThere, true);
    }
    try (Stream<Path> files = Files.list(TESTS)) {
      for (Path file : files.filter(path -> path.toString().endsWith("Edges.java")).toList()) {
        String main = Files.readString(file).replaceAll("(?s).* void main\\(|Kit\\.finish\\(\\);.*", "");
        String kind = file.getFileName().toString().replace(".java", "");
        Pattern.compile("(?m)^    (\\w+)\\(\\);").matcher(main).results()
            .forEach(call -> Kit.due(kind + "." + call.group(1) + " is named", named.contains(kind + "." + call.group(1)), true));
      }
    }
    Kit.finish();
  }
}
