import java.util.ArrayList;
import java.util.HashMap;
import java.util.List;
import java.util.Locale;
import java.util.Map;
import java.util.regex.Matcher;
import java.util.regex.Pattern;

/** The requests and answers of the model. */
final class ModelWeb {
  private static final Pattern REQUEST_LINE = Pattern.compile("([A-Z]{1,16}) (/[\\x21-\\x7e]*) HTTP/1\\.([01])");
  private static final Pattern FIELD = Pattern.compile(
      "([A-Za-z0-9\\-_.!#$%&'*+^`|~]+):[ \\t]*([\\x09\\x20-\\x7e\\x80-\\xff]*?)[ \\t]*");
  private static final Map<Integer, String> PHRASES = Map.of(200, "OK", 304, "Not Modified", 400, "Bad Request",
      404, "Not Found", 405, "Method Not Allowed", 413, "Content Too Large", 431, "Request Header Fields Too Large",
      500, "Internal Server Error", 501, "Not Implemented");
  private static final Map<String, String> TYPES = Map.of("html", "text/html", "css", "text/css", "js", "text/javascript",
      "txt", "text/plain", "png", "image/png");

  private final Model host;
  private String method;
  private String target;
  private boolean isOld;
  private Map<String, List<String>> fields;
  private int file;

  ModelWeb(Model host) {
    this.host = host;
  }

  void lookAt(ModelTcp.Connection c) {
    c.leaveBody();
    if (c.state != ModelTcp.ESTABLISHED && c.state != ModelTcp.CLOSE_WAIT || c.closingDown || c.left() > 0 || c.at != c.una) {
      return;
    }
    while (held(c).startsWith("\n") || held(c).startsWith("\r\n")) {
      c.takeBytes(held(c).indexOf('\n') + 1);
    }
    Matcher head = Pattern.compile("\n\r?\n").matcher(held(c));
    if (head.find()) {
      String text = held(c).substring(0, head.end());
      c.takeBytes(text.length());
      int number = read(text);
      give(c, number);
      c.leaveOut = List.of(400, 413, 431, 501).contains(number) ? 0 : bodyLength();
      c.leaveBody();
    } else if (c.held() == 4096) {
      c.takeBytes(4096);
      forget();
      give(c, 431);
    } else if (c.state == ModelTcp.CLOSE_WAIT) {
      c.closingDown = true;
    }
  }

  private static String held(ModelTcp.Connection c) {
    StringBuilder text = new StringBuilder();
    for (int i = 0; i < c.held(); i++) {
      text.append((char) (c.row.get(c.read + i) & 255));
    }
    return text.toString();
  }

  private void forget() {
    method = "GET";
    isOld = false;
    fields = new HashMap<>();
    file = -1;
  }

  private List<String> values(String name) {
    return fields.getOrDefault(name, List.of());
  }

  private int bodyLength() {
    return values("content-length").isEmpty() ? 0 : Integer.parseInt(values("content-length").get(0));
  }

  /** The number of the answer to a head. */
  private int read(String head) {
    forget();
    String[] lines = head.split("\r?\n");
    Matcher line = REQUEST_LINE.matcher(lines[0]);
    if (!line.matches()) {
      return 400;
    }
    method = line.group(1);
    target = line.group(2);
    isOld = line.group(3).equals("0");
    for (int i = 1; i < lines.length; i++) {
      Matcher field = FIELD.matcher(lines[i]);
      if (!field.matches()) {
        return 400;
      }
      String name = field.group(1).toLowerCase(Locale.ROOT);
      fields.computeIfAbsent(name, key -> new ArrayList<>()).add(field.group(2));
    }
    return number();
  }

  private int number() {
    int hosts = values("host").size();
    if (isOld ? hosts > 1 : hosts != 1) {
      return 400;
    }
    if (!values("transfer-encoding").isEmpty()) {
      return 501;
    }
    List<String> lengths = values("content-length");
    if (lengths.size() > 1 || lengths.size() == 1 && !lengths.get(0).matches("[0-9]{1,9}")) {
      return 400;
    }
    if (bodyLength() > 65536) {
      return 413;
    }
    if (!method.equals("GET") && !method.equals("HEAD")) {
      return 405;
    }
    String path = path();
    if (path == null) {
      return 400;
    }
    file = find(path);
    if (file < 0) {
      return 404;
    }
    if (Kit.check(body()) != entry(56)) {
      return 500;
    }
    List<String> marks = values("if-none-match");
    return marks.size() == 1 && (marks.get(0).equals("*") || marks.get(0).equals(mark())) ? 304 : 200;
  }

  /** The path of the target; null if a % in it is faulty. */
  private String path() {
    String raw = target.split("\\?", 2)[0];
    StringBuilder path = new StringBuilder();
    for (int i = 0; i < raw.length(); i++) {
      if (raw.charAt(i) != '%') {
        path.append(raw.charAt(i));
        continue;
      }
      if (!raw.substring(i).matches("%[0-9A-Fa-f]{2}.*")) {
        return null;
      }
      int code = Integer.parseInt(raw.substring(i + 1, i + 3), 16);
      if (code < 33 || code > 126) {
        return null;
      }
      path.append((char) code);
      i += 2;
    }
    return path + (path.charAt(path.length() - 1) == '/' ? "index.html" : "");
  }

  private String name(int i) {
    String name = Kit.latin(Kit.slice(host.atBoot, 8 + 64 * i, 56 + 64 * i));
    return name.substring(0, name.indexOf(0));
  }

  private int find(String path) {
    for (int i = 0; i < Kit.two(host.atBoot, 4); i++) {
      if (name(i).equals(path)) {
        return i;
      }
    }
    return -1;
  }

  private int entry(int place) {
    return Kit.four(host.atBoot, 8 + 64 * file + place);
  }

  private byte[] body() {
    return Kit.slice(host.image, entry(48), entry(48) + entry(52));
  }

  private String mark() {
    return String.format("\"%08x\"", entry(56));
  }

  private boolean says(String word) {
    for (String value : values("connection")) {
      if (List.of(value.toLowerCase(Locale.ROOT).split("[, \t]+")).contains(word)) {
        return true;
      }
    }
    return false;
  }

  private void give(ModelTcp.Connection c, int number) {
    host.counts[4]++;
    boolean isPersistent = !says("close") && (!isOld || says("keep-alive"));
    c.closingDown = !isPersistent || List.of(400, 413, 431, 500, 501).contains(number);
    String line = number + " " + PHRASES.get(number);
    byte[] body = number == 200 ? body() : Kit.latin(line + "\n");
    String type = number == 200 ? TYPES.getOrDefault(name(file).replaceAll(".*\\.", ""), "application/octet-stream") : "text/plain";
    String head = "HTTP/1.1 " + line + "\r\n";
    if (number != 304) {
      head += "Content-Length: " + body.length + "\r\nContent-Type: " + type + "\r\n";
    }
    head += number == 200 || number == 304 ? "ETag: " + mark() + "\r\n" : "";
    head += number == 405 ? "Allow: GET, HEAD\r\n" : "";
    head += c.closingDown ? "Connection: close\r\n" : "";
    boolean isBare = number == 304 || method.equals("HEAD");
    c.answerAt = c.at;
    c.answer = Kit.join(Kit.latin(head + "\r\n"), isBare ? new byte[0] : body);
  }
}
