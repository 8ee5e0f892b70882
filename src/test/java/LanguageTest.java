import java.nio.file.Files;
import java.nio.file.Path;
import java.util.List;
import java.util.regex.Matcher;
import java.util.regex.Pattern;

/** A look at the program's text for what the rules of LANGUAGE.md forbid; the rest of them is for the eye. */
public final class LanguageTest {
  private static final String FACE = "feed|end|install|boot|arrive|pass|now|sent|length|at|time|state|look|cached|"
      + "waiting|counted|damage|strays";

  public static void main(String[] args) throws Exception {
    String text = Files.readString(Path.of("src/main/java/WebHost.java"));
    String code = text.replaceAll("(?s)/\\*.*?\\*/", "").replaceAll("//[^\n]*", "")
        .replaceAll("\"(\\\\.|[^\"\\\\])*\"", "\"\"").replaceAll("'(\\\\.|[^'\\\\])'", "' '");
    none(code, 2, "->|::|\\bimplements Runnable\\b");
    none(code, 4, "import (?!java\\.util\\.Arrays;)");
    none(code, 4, "\\bjava\\.(?!util\\.Arrays;)");
    none(code, 5, "static \\{|static (?!final\\b)(?!class\\b)[\\w\\[\\]]+ \\w+ *[=;]");
    none(code, 6, "\\b(throw|throws|try|catch|finally|synchronized|assert|instanceof)\\b");
    none(code, 6, "\\b(equals|hashCode|toString)\\(");
    none(code, 10, "\"\" \\+|\\+ \"\"");
    none(code, 13, "\\b(System\\.(?!arraycopy\\()|Random|Thread|Exact\\()");
    none(code, 1, "(?m)^  (?!(public|private|\\}| |\n|$))");
    none(code, 1, "(?m)^(  |    )(?! |public)[\\w\\[\\] ]+ (" + FACE + ")\\([^;]*\\) \\{$");
    Kit.due("1: public members", count(code, "(?m)^  public "), 19);
    Kit.due("11: classes", count(code, "\\bclass ") <= 12, true);
    methods(List.of(code.split("\n")));
    Kit.finish();
  }

  private static void none(String code, int rule, String pattern) {
    Matcher found = Pattern.compile(pattern).matcher(code);
    Kit.due("rule " + rule + ": " + (found.find() ? found.group() : ""), found.reset().find(), false);
  }

  private static int count(String code, String pattern) {
    return (int) Pattern.compile(pattern).matcher(code).results().count();
  }

  /** Methods stay short, and take at most seven parameters. */
  private static void methods(List<String> lines) {
    int begun = -1;
    String margin = "";
    int methods = 0;
    for (int i = 0; i < lines.size(); i++) {
      Matcher head = Pattern.compile("^(  |    )(?! )[^=;]*\\(([^;]*)\\) \\{$").matcher(lines.get(i));
      if (head.find()) {
        begun = i;
        margin = head.group(1);
        methods++;
        Kit.due("rule 11: parameters, line " + (i + 1), head.group(2).split(",").length <= 7, true);
      } else if (begun >= 0 && lines.get(i).equals(margin + "}")) {
        Kit.due("rule 11: length of " + lines.get(begun).trim(), i - begun <= 60, true);
        begun = -1;
      }
    }
    Kit.due("methods were found", methods > 100, true);
  }
}
