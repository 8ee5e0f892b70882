import java.lang.reflect.Method;
import java.lang.reflect.Modifier;
import java.nio.file.Files;
import java.nio.file.Path;
import java.util.List;
import java.util.regex.Matcher;
import java.util.regex.Pattern;

/** Whether the calls in README.md answer what stands behind them, and its table has every call. */
public final class ReadmeTest {
  private static final Pattern CALL = Pattern.compile("^host\\.(\\w+)\\((.*)\\); +// (-?\\d+|true|false)\\b");

  public static void main(String[] args) throws Exception {
    String text = Files.readString(Path.of("README.md"));
    example(text.lines().filter(line -> line.startsWith("host.")).toList());
    table(text);
    Kit.finish();
  }

  private static void example(List<String> lines) throws Exception {
    WebHost host = new WebHost();
    Kit.due("calls in the example", lines.size() > 20, true);
    for (String line : lines) {
      Matcher call = CALL.matcher(line);
      Kit.due("a call and its answer: " + line, call.find(), true);
      Kit.due(line, answer(host, call.group(1), call.group(2)), call.group(3));
    }
  }

  private static String answer(WebHost host, String name, String arguments) throws Exception {
    Object[] values = Pattern.compile("[^, ]+").matcher(arguments).results()
        .map(found -> (Object) Long.decode(found.group()).intValue()).toArray();
    for (Method method : WebHost.class.getDeclaredMethods()) {
      if (method.getName().equals(name) && method.getParameterCount() == values.length) {
        return String.valueOf(method.invoke(host, values));
      }
    }
    return "no such call";
  }

  private static void table(String text) {
    for (Method method : WebHost.class.getDeclaredMethods()) {
      if (Modifier.isPublic(method.getModifiers())) {
        Kit.due("a row for " + method.getName(), text.contains("\n| `" + method.getName() + "("), true);
      }
    }
  }
}
