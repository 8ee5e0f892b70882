/** The terms of what came and of requests: heads, faults, answers, bodies left out, pipelines. */
public final class RequestTest {
  private static final int P = 0x0A000009;
  private static final String N47 = "/345678901234567890123456789012345678901234.html";
  private static int port = 2000;

  public static void main(String[] args) {
    answers();
    types();
    requestLines();
    fields();
    order();
    paths();
    matching();
    persistent();
    parts();
    lines();
    bodies();
    pipelines();
    forgotten();
    tooLarge();
    tellingTheWindow();
    Kit.finish();
  }

  private static byte[] image() {
    return Kit.image("/index.html", "<h1>hi</h1>", "/a.txt", "some text", "/d/index.html", "D", "/x.css", "c",
        "/x.js", "j", "/x.png", "p", "/x.json", "o", "/none", "", "/p%q?r", "odd", N47.substring(0, 47), "L",
        "/~!", "T", "/a-txt", "o", "/ten", "1234567890", "/hundred", "x".repeat(100));
  }

  private static String mark(String body) {
    return String.format("\"%08x\"", Kit.check(Kit.latin(body)));
  }

  private static Peer opened(Kit kit) {
    port++;
    return new Peer(kit, P, port).open(kit.host.now());
  }

  /** What is answered to a request on the first connection of a new host. */
  private static String answer(String request) {
    Kit kit = Kit.booted(image());
    Peer peer = opened(kit);
    peer.send(10, request);
    return peer.data(0);
  }

  private static String get(String target, String more) {
    return answer("GET " + target + " HTTP/1.1\r\nHost: h\r\n" + more + "\r\n");
  }

  private static String number(String answer) {
    return answer.length() < 12 ? "none" : answer.substring(9, 12);
  }

  private static String ok(String type, String body, String more) {
    return "HTTP/1.1 200 OK\r\nContent-Length: " + body.length() + "\r\nContent-Type: " + type + "\r\nETag: "
        + mark(body) + "\r\n" + more + "\r\n" + body;
  }

  private static String fault(String line, String more) {
    return "HTTP/1.1 " + line + "\r\nContent-Length: " + (line.length() + 1) + "\r\nContent-Type: text/plain\r\n" + more
        + "\r\n" + line + "\n";
  }

  private static void answers() {
    String close = "Connection: close\r\n";
    Kit.due("8: 200", get("/a.txt", ""), ok("text/plain", "some text", ""));
    Kit.due("8: 200, closing", get("/a.txt", "Connection: close\r\n"), ok("text/plain", "some text", close));
    Kit.due("8: an empty file", get("/none", ""), ok("application/octet-stream", "", ""));
    String full = ok("text/plain", "some text", "");
    Kit.due("8: HEAD", answer("HEAD /a.txt HTTP/1.1\r\nHost: h\r\n\r\n"), full.substring(0, full.length() - 9));
    Kit.due("8: 304", get("/a.txt", "If-None-Match: *\r\n"),
        "HTTP/1.1 304 Not Modified\r\nETag: " + mark("some text") + "\r\n\r\n");
    Kit.due("8: 400", answer("GET\r\n\r\n"), fault("400 Bad Request", close));
    Kit.due("8: 404", get("/b.txt", ""), fault("404 Not Found", ""));
    String missing = fault("404 Not Found", "");
    Kit.due("8: 404 for HEAD", answer("HEAD /b HTTP/1.1\r\nHost: h\r\n\r\n"), missing.substring(0, missing.length() - 14));
    Kit.due("8: 405", answer("POST /a.txt HTTP/1.1\r\nHost: h\r\n\r\n"),
        fault("405 Method Not Allowed", "Allow: GET, HEAD\r\n"));
    Kit.due("8: 405, closing", answer("POST /a.txt HTTP/1.0\r\n\r\n"),
        fault("405 Method Not Allowed", "Allow: GET, HEAD\r\n" + close));
    Kit.due("8: 413", get("/a.txt", "Content-Length: 65537\r\n"), fault("413 Content Too Large", close));
    Kit.due("8: 501", get("/a.txt", "Transfer-Encoding: chunked\r\n"), fault("501 Not Implemented", close));
    Kit kit = Kit.booted(image());
    kit.host.damage(Kit.latin(image()).indexOf("some text"), 'S');
    Peer peer = opened(kit);
    peer.send(10, "GET /a.txt HTTP/1.1\r\nHost: h\r\n\r\n");
    Kit.due("8: 500", peer.data(0), fault("500 Internal Server Error", close));
    Kit.due("13: closing down", peer.state(), 3);
    Kit.due("17: answers", kit.host.counted(4), 1);
  }

  private static void types() {
    Kit.due("8: index", get("/", ""), ok("text/html", "<h1>hi</h1>", ""));
    Kit.due("8: .css", get("/x.css", ""), ok("text/css", "c", ""));
    Kit.due("8: .js", get("/x.js", ""), ok("text/javascript", "j", ""));
    Kit.due("8: .png", get("/x.png", ""), ok("image/png", "p", ""));
    Kit.due("8: -txt", get("/a-txt", ""), ok("application/octet-stream", "o", ""));
    Kit.due("8: ten", get("/ten", ""), ok("application/octet-stream", "1234567890", ""));
    Kit.due("8: hundred", get("/hundred", ""), ok("application/octet-stream", "x".repeat(100), ""));
    Kit.due("8: .json", get("/x.json", ""), ok("application/octet-stream", "o", ""));
  }

  private static void line(String line, int want) {
    Kit.due("8: " + line, number(answer(line + "\r\nHost: h\r\n\r\n")), "" + want);
  }

  private static void requestLines() {
    line("GET /a.txt HTTP/1.1", 200);
    line("GET /a.txt HTTP/1.0", 200);
    line("GET /a.txt HTTP/1.2", 400);
    line("GET /a.txt HTTP/2.0", 400);
    line("GET /a.txt http/1.1", 400);
    line("GET /a.txt HTTP/1.1 ", 400);
    line("GET /a.txt HTTP/1.11", 400);
    line("GET /a.txt", 400);
    line("GET /a.txt ", 400);
    line("GET  /a.txt HTTP/1.1", 400);
    line("GET /a.txt  HTTP/1.1", 400);
    line(" GET /a.txt HTTP/1.1", 400);
    line("GET\t/a.txt HTTP/1.1", 400);
    line("GET a.txt HTTP/1.1", 400);
    line("GET http://h/a.txt HTTP/1.1", 400);
    line("GET * HTTP/1.1", 400);
    line("GET /a\u007f HTTP/1.1", 400);
    line("GET /a\u00e4 HTTP/1.1", 400);
    line("GET /a\tb HTTP/1.1", 400);
    line("get /a.txt HTTP/1.1", 400);
    line("GEt /a.txt HTTP/1.1", 400);
    line("G3T /a.txt HTTP/1.1", 400);
    line(" /a.txt HTTP/1.1", 400);
    line("GETT /a.txt HTTP/1.1", 405);
    line("XET /a.txt HTTP/1.1", 405);
    line("AZ /a.txt HTTP/1.1", 405);
    line("G /a.txt HTTP/1.1", 405);
    line("GE /a.txt HTTP/1.1", 405);
    line("ABCDEFGHIJKLMNOP /a.txt HTTP/1.1", 405);
    line("ABCDEFGHIJKLMNOPQ /a.txt HTTP/1.1", 400);
    line("GET /a.txt HTTP/1.1\r", 400);
    Kit.due("8: HEAD with a faulty line has a body", answer("HEAD /a.txt HTTP/3.1\r\n\r\n"),
        fault("400 Bad Request", "Connection: close\r\n"));
    String body = fault("400 Bad Request", "Connection: close\r\n");
    Kit.due("8: HEAD with a faulty field has none", answer("HEAD /a.txt HTTP/1.1\r\nHost\r\n\r\n"),
        body.substring(0, body.length() - 16));
  }

  private static void field(String field, int want) {
    Kit.due("8: " + field, number(get("/a.txt", field + "\r\n")), "" + want);
  }

  private static void fields() {
    field("X: y", 200);
    field("X:y", 200);
    field("X:", 200);
    field("X: \t y \t ", 200);
    field("aZ09-_.!#$%&'*+^`|~: y", 200);
    field("X: \u0080\u00ff ~", 200);
    field("X: a\tb", 200);
    field("X : y", 400);
    field(" X: y", 400);
    field("\tX: y", 400);
    field("X", 400);
    field(": y", 400);
    field("X(: y", 400);
    field("X@: y", 400);
    field("X\u00e4: y", 400);
    field("X\u0000: y", 400);
    field("X: a\u007f", 400);
    field("X: a\u0000", 400);
    field("X: a\u001fb", 400);
    field("X: a\rb", 400);
    field("X: a\r", 400);
    field("z: y", 200);
    field("Xost: again", 200);
    field("Hosx: again", 200);
    field("Content-Length: 1:", 400);
    field("Content-Length: 1/", 400);
    field("Host: again", 400);
    field("hOST: again", 400);
    field("Content-Length: 0", 200);
    field("Content-Length: 65536", 200);
    field("Content-Length: 000065536", 200);
    field("Content-Length: 65537", 413);
    field("content-length: 999999999", 413);
    field("Content-Length: 0000065536", 400);
    field("Content-Length: 1000000000", 400);
    field("Content-Length:", 400);
    field("Content-Length: -1", 400);
    field("Content-Length: +1", 400);
    field("Content-Length: 1 2", 400);
    field("Content-Length: a", 400);
    field("Content-Length: 0\r\nContent-Length: 0", 400);
    field("transfer-encoding:", 501);
    Kit.due("8: 1.1 without Host", number(answer("GET /a.txt HTTP/1.1\r\n\r\n")), "400");
    Kit.due("8: 1.1 with an empty Host", number(answer("GET /a.txt HTTP/1.1\r\nHost:\r\n\r\n")), "200");
    Kit.due("8: 1.0 without Host", number(answer("GET /a.txt HTTP/1.0\r\n\r\n")), "200");
    Kit.due("8: 1.0 with one", number(answer("GET /a.txt HTTP/1.0\r\nHost: h\r\n\r\n")), "200");
    Kit.due("8: 1.0 with two", number(answer("GET /a.txt HTTP/1.0\r\nHost: h\r\nHost: h\r\n\r\n")), "400");
  }

  private static void order() {
    field("Transfer-Encoding: x\r\nHost: h", 400);
    field("Transfer-Encoding: x\r\nContent-Length: x", 501);
    field("Transfer-Encoding: x\r\nbad", 400);
    field("Content-Length: 99999\r\nContent-Length: 1", 400);
    Kit.due("8: 413 before 405", number(answer("PUT / HTTP/1.1\r\nHost: h\r\nContent-Length: 65537\r\n\r\n")), "413");
    Kit.due("8: 405 before a faulty %", number(answer("PUT /% HTTP/1.1\r\nHost: h\r\n\r\n")), "405");
  }

  private static void path(String target, int want) {
    Kit.due("8: " + target, number(get(target, "")), "" + want);
  }

  private static void paths() {
    path("/?", 200);
    path("/a.txt?x=%zz?", 200);
    path("/?a.txt", 200);
    path("/a%2etxt", 200);
    path("/a%2Etxt", 200);
    path("%2fa.txt", 400);
    path("/%61.txt", 200);
    path("/d/", 200);
    path("/d%2F", 200);
    path("/d%2f", 200);
    path("/d", 404);
    path("/p%25q%3Fr", 200);
    path("/p%25q%3fr?x", 200);
    path("/p%q?r", 400);
    path("/%7e%21", 200);
    path("/~!", 200);
    path("/%70%25q%3Fr", 200);
    path("/%69ndex.html", 200);
    path("/x.%6as", 200);
    path("/x.%6As", 200);
    path("/%20", 400);
    path("/%7f", 400);
    path("/%7F", 400);
    path("/%00", 400);
    path("/%80", 400);
    path("/%ff", 400);
    path("/%", 400);
    path("/%6", 400);
    path("/%6?1", 400);
    path("/%g1", 400);
    path("/%1g", 400);
    path("/A.TXT", 404);
    path("/a.txt/", 404);
    path(N47.substring(0, 47), 200);
    path(N47.substring(0, 47) + "x", 404);
    path("/" + "x".repeat(300) + "%2", 400);
    path("/" + "x".repeat(300), 404);
    path("/index.html", 200);
  }

  private static void matching() {
    String mark = mark("some text");
    String bare = mark.substring(1, 9);
    field("If-None-Match: " + mark, 304);
    field("IF-NONE-MATCH:" + mark + " ", 304);
    field("If-None-Match: *", 304);
    field("If-None-Match: " + bare, 200);
    field("If-None-Match: \"" + bare.toUpperCase() + "\"", bare.equals(bare.toUpperCase()) ? 304 : 200);
    field("If-None-Match: \"" + (bare.charAt(0) == '0' ? '1' : '0') + bare.substring(1) + "\"", 200);
    field("If-None-Match: x" + bare + "\"", 200);
    field("If-None-Match: \"" + bare + "x", 200);
    field("If-None-Match: W/" + mark, 200);
    field("If-None-Match: " + mark + ", \"x\"", 200);
    field("If-None-Match: \"00000000\"", 200);
    field("If-None-Match: " + mark + "\r\nIf-None-Match: " + mark, 200);
    field("If-None-Match: *\r\nIf-None-Match: *", 200);
    field("If-None-Match:", 200);
    Kit.due("8: 404 before 304", number(get("/b", "If-None-Match: *\r\n")), "404");
  }

  private static int stateBehind(String request) {
    Kit kit = Kit.booted(image());
    Peer peer = opened(kit);
    peer.send(10, request);
    return peer.state();
  }

  private static void words(String version, String fields, boolean persistent) {
    String request = "GET /a.txt HTTP/" + version + "\r\nHost: h\r\n" + fields + "\r\n";
    Kit.due("8: " + version + " " + fields, stateBehind(request), persistent ? 2 : 3);
    Kit.due("8: told " + fields, answer(request).contains("\r\nConnection: close\r\n"), !persistent);
  }

  private static void persistent() {
    words("1.1", "", true);
    words("1.0", "", false);
    words("1.1", "Connection: close\r\n", false);
    words("1.1", "connection: CLOSE\r\n", false);
    words("1.1", "Connection: closed\r\n", true);
    words("1.1", "Connection: x,\tclose ,y\r\n", false);
    words("1.1", "Connection: keep-alive close\r\n", false);
    words("1.1", "Connection: keep-alive\r\nConnection: close\r\n", false);
    words("1.1", "Connection: not-close\r\n", true);
    words("1.1", "Connection: ,\r\n", true);
    words("1.0", "Connection: Keep-Alive\r\n", true);
    words("1.0", "Connection: keep-alive, close\r\n", false);
    words("1.0", "Connection: x\r\nConnection: keep-alive\r\n", true);
    words("1.0", "Connection: keepalive\r\n", false);
    Kit.due("8: 404 goes on", stateBehind("GET /b HTTP/1.1\r\nHost: h\r\n\r\n"), 2);
    Kit.due("8: 405 goes on", stateBehind("PUT /b HTTP/1.1\r\nHost: h\r\n\r\n"), 2);
    Kit.due("8: 400 does not", stateBehind("GET /% HTTP/1.1\r\nHost: h\r\n\r\n"), 3);
    Kit.due("8: 413 does not", stateBehind("GET / HTTP/1.1\r\nHost: h\r\nContent-Length: 70000\r\n\r\n"), 3);
    Kit.due("8: 501 does not", stateBehind("GET / HTTP/1.1\r\nHost: h\r\nTransfer-Encoding: x\r\n\r\n"), 3);
  }

  private static void parts() {
    Kit kit = Kit.booted(image());
    Peer peer = opened(kit);
    String head = "GET /a.txt HTTP/1.1\r\nHost: h\r\n\r\n";
    for (int i = 0; i < head.length() - 1; i++) {
      Kit.due("8: no answer yet", peer.send(10, head.substring(i, i + 1)), 1);
      Kit.due("5: an ACK", peer.data(0), "");
    }
    Kit.due("7: held", peer.look(11), head.length() - 1);
    Kit.due("7: told", peer.windowOf(0), 4096 - head.length() + 1);
    Kit.due("8: answered", peer.send(10, "\n"), 1);
    Kit.due("8: as due", peer.data(0), ok("text/plain", "some text", ""));
    Kit.due("7: all taken", peer.look(11), 0);
    Kit.due("7: told", peer.windowOf(0), 4096);
    Kit.due("17: one answer", kit.host.counted(4), 1);
  }

  private static void lines() {
    String want = ok("text/plain", "some text", "");
    Kit.due("8: lines that end with 10 alone", answer("GET /a.txt HTTP/1.1\nHost: h\n\n"), want);
    Kit.due("8: both", answer("GET /a.txt HTTP/1.1\r\nHost: h\n\r\n"), want);
    Kit.due("8: empty lines before", answer("\r\n\n\r\nGET /a.txt HTTP/1.1\r\nHost: h\r\n\r\n"), want);
    Kit.due("8: one empty line before", answer("\nGET /a.txt HTTP/1.1\r\nHost: h\r\n\r\n"), want);
    Kit.due("8: a 13 alone before", number(answer("\r\r\nGET /a.txt HTTP/1.1\r\nHost: h\r\n\r\n")), "400");
    Kit kit = Kit.booted(image());
    Peer peer = opened(kit);
    peer.send(10, "\r\n\r\n\r");
    Kit.due("8: empty lines are taken", peer.look(11), 1);
    peer.send(11, "\nG");
    Kit.due("8: also when the rest comes", peer.look(11), 1);
  }

  private static void bodies() {
    Kit kit = Kit.booted(image());
    Peer peer = opened(kit);
    peer.send(10, "PUT /a.txt HTTP/1.1\r\nHost: h\r\nContent-Length: 10\r\n\r\n12345");
    Kit.due("8: answered", number(peer.data(0)), "405");
    int n = peer.data(0).length();
    Kit.due("8: the body is left out", peer.look(11), 0);
    Kit.due("8: its rest too, while the answer is in flight", peer.send(11, "678"), 1);
    Kit.due("7: at once", peer.look(11), 0);
    peer.send(12, "90GET /a.txt HTTP/1.1\r\nHost: h\r\n\r\n");
    Kit.due("8: but not what is behind", peer.look(11), 32);
    Kit.due("8: which is answered then", peer.ackMore(13, n), 1);
    Kit.due("8: as due", number(peer.data(0)), "200");

    peer = opened(kit);
    peer.send(20, "GET /% HTTP/1.1\r\nHost: h\r\nContent-Length: 10\r\n\r\n12345");
    Kit.due("8: not with 400", peer.look(11), 5);
    peer = opened(kit);
    peer.send(20, "GET / HTTP/1.1\r\nHost: h\r\nContent-Length: 70000\r\n\r\n12345");
    Kit.due("8: not with 413", peer.look(11), 5);
    peer = opened(kit);
    peer.send(20, "GET / HTTP/1.1\r\nHost: h\r\nContent-Length: 10\r\nTransfer-Encoding: x\r\n\r\n12345");
    Kit.due("8: not with 501", peer.look(11), 5);
    peer = opened(kit);
    peer.send(20, "GET /b HTTP/1.0\r\nContent-Length: 10\r\n\r\n12345");
    Kit.due("8: with 404, closing down", peer.look(11), 0);
    Kit.due("13: FIN WAIT 1", peer.state(), 3);
    peer.send(21, "67890+");
    Kit.due("8: the rest in FIN WAIT 1", peer.look(11), 1);

    peer = opened(kit);
    peer.send(30, "GET /a.txt HTTP/1.1\r\nHost: h\r\nContent-Length: 5\r\n\r\n12");
    peer.ackMore(31, peer.data(0).length());
    Kit.due("8: FIN before the body's end", peer.fin(32), 1);
    Kit.due("13: LAST ACK", peer.state(), 8);
  }

  private static void pipelines() {
    Kit kit = Kit.booted(image());
    Peer peer = opened(kit);
    String get = "GET /a.txt HTTP/1.1\r\nHost: h\r\n\r\n";
    String other = "GET /x.css HTTP/1.1\r\nHost: h\r\n\r\n";
    Kit.due("8: one answer at a time", peer.send(10, get + other + "\r\n" + get), 1);
    String first = peer.data(0);
    Kit.due("8: the first", first, ok("text/plain", "some text", ""));
    Kit.due("7: held", peer.look(11), other.length() + 2 + get.length());
    Kit.due("8: not before all is acknowledged", peer.ackMore(20, first.length() - 1), 0);
    Kit.due("8: the second", peer.ackMore(30, 1), 1);
    Kit.due("8: as due", peer.data(0), ok("text/css", "c", ""));
    Kit.due("8: the third, with FIN", peer.raw(40, Peer.ACK | Peer.FIN, peer.seq, peer.ack + peer.data(0).length(), ""), 1);
    Kit.due("8: as due", peer.data(0), first);
    Kit.due("13: CLOSE WAIT", peer.state(), 7);
    Kit.due("17: answers", kit.host.counted(4), 3);
    peer.seq++;
    peer.ack = Kit.four(kit.frame(0), 38);
    Kit.due("8: then it closes down", peer.ackMore(50, first.length()), 1);
    Kit.due("6: FIN ACK", peer.flags(0), 17);

    peer = opened(kit);
    Kit.due("8: part of a head and FIN", peer.raw(60, Peer.ACK | Peer.FIN, peer.seq, peer.ack, "GET /"), 1);
    Kit.due("13: LAST ACK", peer.state(), 8);
    Kit.due("7: what is held stays", peer.look(11), 5);
    peer = opened(kit);
    peer.send(70, "GET /a.txt HTTP/1.0\r\n\r\n" + get);
    peer.ackMore(71, peer.data(0).length() + 1);
    Kit.due("8: nothing is answered when it is closing down", kit.host.counted(4), 4);
    Kit.due("13: FIN WAIT 2", peer.state(), 4);
  }

  /** What one request said is not said by the next one. */
  private static void forgotten() {
    Kit kit = Kit.booted(image());
    Peer peer = opened(kit);
    peer.send(10, "HEAD /a.txt HTTP/1.0\r\nConnection: close\r\nContent-Length: 5\r\nIf-None-Match: *\r\n\r\n");
    Kit.due("8: closing down", peer.state(), 3);
    peer = opened(kit);
    peer.send(20, "GET /a.txt HTTP/1.1\r\nHost: h\r\n\r\n1234");
    Kit.due("8: nothing of that", peer.data(0), ok("text/plain", "some text", ""));
    Kit.due("7: nothing is left out", peer.look(11), 4);
    peer = opened(kit);
    peer.send(30, "GET /a.txt HTTP/1.0\r\nConnection: keep-alive\r\n\r\n");
    Kit.due("8: persistent", peer.state(), 2);
    peer = opened(kit);
    peer.send(40, "GET /a.txt HTTP/1.0\r\n\r\n");
    Kit.due("8: not persistent", peer.state(), 3);
    peer = opened(kit);
    peer.send(50, "HEAD /a.txt HTTP/1.0\r\n\r\n");
    peer = opened(kit);
    for (int i = 0; i < 4; i++) {
      peer.send(60, "x".repeat(1024));
    }
    Kit.due("8: 431 is as for GET", peer.data(0), fault("431 Request Header Fields Too Large", "Connection: close\r\n"));
    peer = opened(kit);
    peer.send(70, "HEAD /a.txt HTTP/1.0\r\n\r\n");
    peer = opened(kit);
    peer.send(80, "x\r\n\r\n");
    Kit.due("8: a faulty line too", peer.data(0), fault("400 Bad Request", "Connection: close\r\n"));
    peer = opened(kit);
    peer.send(90, "PUT /a.txt HTTP/1.1\r\nHost: h\r\nContent-Length: 3\r\n\r\n12");
    peer.send(91, "3");
    Kit.due("8: a byte alone is left out", peer.look(11), 0);
  }

  private static void tooLarge() {
    Kit kit = Kit.booted(image());
    Peer peer = opened(kit);
    peer.send(10, "\r\nGET / HTTP/1.1\r\nHost: " + "x".repeat(1370));
    peer.send(11, "x".repeat(1400));
    int left = 4096 - (int) peer.look(11);
    Kit.due("8: not yet", peer.send(12, "x".repeat(left - 1)), 1);
    Kit.due("5: an ACK", peer.data(0), "");
    Kit.due("7: told", peer.windowOf(0), 1);
    Kit.due("8: 4096 held", peer.send(13, "\n"), 1);
    Kit.due("8: 431", peer.data(0), fault("431 Request Header Fields Too Large", "Connection: close\r\n"));
    Kit.due("7: all taken", peer.look(11), 0);
    Kit.due("7: told", peer.windowOf(0), 4096);
    Kit.due("13: FIN WAIT 1", peer.state(), 3);

    peer = opened(kit);
    String head = "GET /a.txt HTTP/1.1\r\nHost: ";
    peer.send(20, head + "x".repeat(1400 - head.length()));
    peer.send(21, "x".repeat(1400));
    peer.send(22, "x".repeat(4096 - 2800 - 4) + "\r\n\r\n");
    Kit.due("8: a head of just 4096", number(peer.data(0)), "200");
  }

  private static void tellingTheWindow() {
    Kit kit = Kit.booted(image());
    Peer peer = opened(kit);
    peer.window = 0;
    String get = "GET /a.txt HTTP/1.1\r\nHost: h\r\n";
    peer.send(10, get + "\r\n");
    Kit.due("8: answered, but not sent", peer.look(12), ok("text/plain", "some text", "").length());
    String pad = "X: " + "x".repeat(900) + "\r\n";
    peer.send(11, get + pad);
    peer.send(12, pad + "Y: " + "y".repeat(2048 - get.length() - 2 * pad.length() - 7) + "\r\n\r\n");
    Kit.due("7: held", peer.look(11), 2048);
    Kit.due("7: told", peer.windowOf(0), 2048);
    peer.window = 1000;
    Kit.due("6: the first answer goes", peer.ackMore(13, 0), 1);
    int n = peer.data(0).length();
    peer.window = 0;
    Kit.due("7: the second head is taken: W is greater by 2048", peer.ackMore(14, n), 1);
    Kit.due("7: an ACK tells it", peer.windowOf(0), 4096);
    Kit.due("7: without data", peer.data(0), "");

    peer = opened(kit);
    peer.window = 0;
    peer.send(20, get + "\r\n");
    peer.send(21, get + pad);
    peer.send(22, pad + "Y: " + "y".repeat(2047 - get.length() - 2 * pad.length() - 7) + "\r\n\r\n");
    peer.window = 1000;
    peer.ackMore(23, 0);
    peer.window = 0;
    Kit.due("7: greater by 2047: nothing is owed", peer.ackMore(24, n), 0);
    Kit.due("7: taken", peer.look(11), 0);
  }
}
