import java.lang.reflect.Field;
import java.lang.reflect.Method;
import java.lang.reflect.Modifier;
import java.nio.file.Files;
import java.nio.file.Path;
import java.util.List;
import java.util.regex.Matcher;
import java.util.regex.Pattern;

/** A look at the program's text and classes for what the rules of LANGUAGE.md forbid; the rest is for the eye. */
public final class LanguageTest {
  private static final String FACE = "feed|end|install|boot|arrive|pass|now|sent|length|at|time|state|look|cached|"
      + "waiting|counted|damage|strays";

  public static void main(String[] args) throws Exception {
    String text = Files.readString(Path.of("src/main/java/WebHost.java"));
    String code = text.replaceAll("(?s)/\\*.*?\\*/", "").replaceAll("//[^\n]*", "")
        .replaceAll("\"(\\\\.|[^\"\\\\])*\"", "\"\"").replaceAll("'(\\\\.|[^'\\\\])'", "' '");
    none(code, 2, "->|::|\\bimplements Runnable\\b");
    none(code, 4, "import (?!java\\.util\\.Arrays;)");
    none(code, 4, "\\bjava\\.(?!util\\.Arrays;)");
    none(code, 5, "static \\{|static (?!final\\b)(?!class\\b)[\\w\\[\\]]+ \\w+ *[=;]");
    none(code, 6, "\\b(throw|throws|try|catch|finally|synchronized|assert|instanceof)\\b");
    none(code, 6, "\\b(equals|hashCode|toString)\\(");
    none(code, 10, "\"\" \\+|\\+ \"\"");
    none(code, 13, "\\b(System\\.(?!arraycopy\\()|Random|Thread|Exact\\()");
    none(code, 1, "(?m)^  (?!(public|private|\\}| |\n|$))");
    none(code, 1, "(?m)^(  |    )(?! |public)[\\w\\[\\] ]+ (" + FACE + ")\\([^;]*\\) \\{$");
    Kit.due("1: public members", count(code, "(?m)^  public "), 19);
    Kit.due("11: classes", count(code, "\\bclass ") <= 12, true);
    methods(List.of(code.split("\n")));
    face();
    fields(WebHost.class);
    for (Class<?> inside : WebHost.class.getDeclaredClasses()) {
      int kind = inside.getModifiers();
      boolean isHidden = !Modifier.isPublic(kind) && !Modifier.isProtected(kind);
      Kit.due("2: " + inside.getName() + " is static and not public", Modifier.isStatic(kind) && isHidden, true);
      fields(inside);
    }
    Kit.finish();
  }

  /** Every method of the document's face is public, all others are private. */
  private static void face() {
    int found = 0;
    for (Method method : WebHost.class.getDeclaredMethods()) {
      boolean isOfFace = method.getName().matches(FACE);
      found += isOfFace ? 1 : 0;
      int kind = method.getModifiers();
      Kit.due("1: " + method.getName(), isOfFace ? Modifier.isPublic(kind) : Modifier.isPrivate(kind), true);
    }
    Kit.due("1: methods of the face", found, FACE.split("[|]").length);
    Kit.due("1: public and final", Modifier.isFinal(WebHost.class.getModifiers()), true);
    Kit.due("1: constructors", WebHost.class.getDeclaredConstructors().length, 1);
  }

  /** No static state, and some twenty fields beside the constants. */
  private static void fields(Class<?> type) {
    int own = 0;
    for (Field field : type.getDeclaredFields()) {
      if (Modifier.isStatic(field.getModifiers())) {
        Kit.due("5: " + type.getName() + "." + field.getName(), Modifier.isFinal(field.getModifiers()), true);
      } else {
        own++;
      }
    }
    Kit.due("11: fields of " + type.getName() + ", " + own, own <= 20, true);
  }

  private static void none(String code, int rule, String pattern) {
    Matcher found = Pattern.compile(pattern).matcher(code);
    Kit.due("rule " + rule + ": " + (found.find() ? found.group() : ""), found.reset().find(), false);
  }

  private static int count(String code, String pattern) {
    return (int) Pattern.compile(pattern).matcher(code).results().count();
  }

  /** Methods stay short, and take at most seven parameters. */
  private static void methods(List<String> lines) {
    int begun = -1;
    String margin = "";
    int methods = 0;
    for (int i = 0; i < lines.size(); i++) {
      Matcher head = Pattern.compile("^(  |    )(?! )[^=;]*\\(([^;]*)\\) \\{$").matcher(lines.get(i));
      if (head.find()) {
        begun = i;
        margin = head.group(1);
        methods++;
        Kit.due("rule 11: parameters, line " + (i + 1), head.group(2).split(",").length <= 7, true);
      } else if (begun >= 0 && lines.get(i).equals(margin + "}")) {
        Kit.due("rule 11: length of " + lines.get(begun).trim(), i - begun <= 60, true);
        begun = -1;
      }
    }
    Kit.due("methods were found", methods > 100, true);
  }
}
