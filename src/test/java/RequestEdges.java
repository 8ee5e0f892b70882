/** Point 8 of the terms: the boundaries of heads, lines, fields, targets, and answers. */
public final class RequestEdges {
  private static final int P = 0x0A000009;
  private static final String CLOSE = "Connection: close\r\n";
  private static final String N37 = "/" + "d".repeat(35) + "/";

  public static void main(String[] args) {
    nothingLeftToSend();
    flightIsZero();
    notClosingDown();
    statesInWhichTheyAreLookedAt();
    emptyLinesAreTaken();
    aLineEndsWith10();
    noHeadYet();
    held4096();
    closeWait();
    methodLength();
    methodLetters();
    targetCodes();
    justTwoBlanks();
    versions();
    fieldNames();
    fieldValues();
    valueEnds();
    hostOnce();
    transferEncoding();
    contentLengthDigits();
    contentLengthAbove65536();
    bodyLeftOut();
    bodyOf65536();
    percent();
    percentCodes();
    pathUpTo47();
    pathEndsWithSlash();
    noneMatch();
    persistentWords();
    closingAnswers();
    methodTakenAsGet();
    contentLengths();
    types();
    fileCheck();
    Kit.finish();
  }

  private static byte[] image() {
    return Kit.image("/index.html", "<h1>hi</h1>", "/a.txt", "some text", "/!~", "codes", N37 + "index.html", "deep",
        "/" + "n".repeat(46), "47", "/a?b", "question", "/%", "percent", "/a/b", "slash");
  }

  private static Peer opened() {
    return new Peer(Kit.booted(image()), P, 5000).open(0);
  }

  private static String answer(String request) {
    Peer peer = opened();
    peer.send(1, request);
    return peer.data(0);
  }

  private static String number(String answer) {
    return answer.length() < 12 ? "none" : answer.substring(9, 12);
  }

  private static void due(String what, String request, int want) {
    Kit.due("8: " + what, number(answer(request)), want == 0 ? "none" : "" + want);
  }

  private static String get(String target) {
    return "GET " + target + " HTTP/1.1\r\nHost: h\r\n\r\n";
  }

  private static String with(String fields) {
    return "GET /a.txt HTTP/1.1\r\nHost: h\r\n" + fields + "\r\n";
  }

  private static void nothingLeftToSend() {
    Peer peer = opened();
    peer.window = 0;
    peer.send(1, get("/a.txt") + get("/"));
    Kit.due("8: only the first is looked at", peer.host.counted(4), 1);
    Kit.due("8: FLIGHT is 0, but all is left to send", peer.look(3), peer.look(2));
    peer.ackMore(2, 0);
    Kit.due("8: so the second is not", peer.host.counted(4), 1);
    int n = (int) peer.look(12);
    peer.window = n - 1;
    peer.ackMore(3, 0);
    peer.window = 0;
    peer.ackMore(4, n - 1);
    Kit.due("8: FLIGHT is 0, but a byte is left to send", peer.look(12), 1);
    Kit.due("8: so the second is not", peer.host.counted(4), 1);
    peer.window = 1;
    peer.ackMore(5, 0);
    peer.window = 1000;
    Kit.due("8: nothing is left", peer.ackMore(6, 1), 1);
    Kit.due("8: so the second is", peer.host.counted(4), 2);
  }

  private static void flightIsZero() {
    Peer peer = opened();
    peer.send(1, get("/a.txt") + get("/"));
    int n = peer.data(0).length();
    Kit.due("8: a byte in flight", peer.ackMore(2, n - 1), 0);
    Kit.due("8: one answer", peer.host.counted(4), 1);
    Kit.due("8: none in flight", peer.ackMore(3, 1), 1);
    Kit.due("8: two answers", peer.host.counted(4), 2);
  }

  private static void notClosingDown() {
    Peer peer = opened();
    peer.window = 0;
    peer.send(1, "GET /a.txt HTTP/1.0\r\n\r\n" + get("/"));
    int n = (int) peer.look(12) - 1;
    peer.window = n;
    peer.ackMore(2, 0);
    peer.window = 0;
    peer.ackMore(3, n);
    Kit.due("8: the FIN is left", peer.look(12), 1);
    Kit.due("13: ESTABLISHED", peer.state(), 2);
    Kit.due("8: closing down, no more is looked at", peer.host.counted(4), 1);
  }

  private static void statesInWhichTheyAreLookedAt() {
    Peer peer = opened();
    Kit.due("8: in CLOSE WAIT, with the FIN", peer.raw(1, Peer.ACK | Peer.FIN, peer.seq, peer.ack, get("/")), 1);
    Kit.due("8: answered", number(peer.data(0)), "200");
    Kit.due("13: CLOSE WAIT", peer.state(), 7);
    peer = opened();
    peer.send(1, "GET / HTTP/1.0\r\n\r\n");
    peer.ackMore(2, peer.data(0).length() + 1);
    Kit.due("13: FIN WAIT 2", peer.state(), 4);
    Kit.due("8: not in FIN WAIT 2", peer.send(3, get("/")), 1);
    Kit.due("8: an ACK alone", peer.data(0), "");
    Kit.due("7: it is held", peer.look(11), get("/").length());
  }

  private static void emptyLinesAreTaken() {
    for (String lines : new String[] {"\n", "\r\n", "\n\n", "\r\n\r\n", "\n\r\n", "\r\n\n", "\r\n".repeat(50)}) {
      due("empty lines before a head", lines + get("/"), 200);
      Peer peer = opened();
      peer.send(1, lines);
      Kit.due("8: taken without a head too", peer.look(11), 0);
    }
    Peer peer = opened();
    peer.send(1, "\r");
    Kit.due("8: a 13 alone is not a line yet", peer.look(11), 1);
    peer.send(2, "\n");
    Kit.due("8: now it is", peer.look(11), 0);
    due("a 13 before a line", "\r" + get("/"), 400);
    due("two of them before a 10", "\r\r\n" + get("/"), 400);
    due("a blank is no empty line", " \r\n" + get("/"), 400);
  }

  private static void aLineEndsWith10() {
    due("10 alone", "GET / HTTP/1.1\nHost: h\n\n", 200);
    due("13 10", "GET / HTTP/1.1\r\nHost: h\r\n\r\n", 200);
    due("13 10 and 10", "GET / HTTP/1.1\r\nHost: h\r\n\n", 200);
    due("10 and 13 10", "GET / HTTP/1.1\nHost: h\n\r\n", 200);
    due("13 13 10: one 13 is part of the request line", "GET / HTTP/1.1\r\r\nHost: h\r\n\r\n", 400);
    due("13 13 10: one 13 is part of a value", "GET / HTTP/1.1\r\nHost: h\r\r\n\r\n", 400);
    due("13 alone ends no line", "GET / HTTP/1.1\rHost: h\r\r", 0);
    due("13 13 10 is not empty: a line of 13", "GET / HTTP/1.1\r\nHost: h\r\n\r\r\n\r\n", 400);
  }

  private static void noHeadYet() {
    String head = get("/");
    for (int n = 1; n < head.length(); n++) {
      Peer peer = opened();
      Kit.due("8: an ACK for " + n, peer.send(1, head.substring(0, n)), 1);
      Kit.due("8: no head yet", peer.host.counted(4), 0);
      Kit.due("7: held", peer.look(11), n);
    }
    for (String line : new String[] {"X\n", "X\r\n", "XY\n", "X\nY\n", "X\nYY\r\n"}) {
      Peer peer = opened();
      peer.send(1, line);
      Kit.due("8: short lines are no head", peer.host.counted(4), 0);
      peer.send(2, "\n");
      Kit.due("8: before an empty one", peer.host.counted(4), 1);
    }
  }

  private static void fill(Peer peer, int n) {
    for (int left = n; left > 0; left -= 1400) {
      peer.send(1, "x".repeat(Math.min(left, 1400)));
    }
  }

  private static void held4096() {
    Peer peer = opened();
    fill(peer, 4095);
    Kit.due("8: 4095 held", peer.host.counted(4), 0);
    peer.send(2, "x");
    Kit.due("8: 4096 held", number(peer.data(0)), "431");
    Kit.due("10: all of it is taken", peer.look(11), 0);
    Kit.due("13: closing down", peer.state(), 3);
    // The empty line that ends a head is the last of 4096, or would be behind.
    for (int n = 4095; n <= 4097; n++) {
      peer = opened();
      String head = "GET /a.txt HTTP/1.1\r\nHost: ";
      String fields = "h".repeat(n - head.length() - 4) + "\r\n\r\n";
      String whole = head + fields;
      for (int i = 0; i < n; i += 1400) {
        peer.raw(1, Peer.ACK, peer.seq + i, peer.ack, whole.substring(i, Math.min(n, i + 1400)));
      }
      Kit.due("8: a head of " + n, number(peer.data(0)), n <= 4096 ? "200" : "431");
    }
    // Empty lines do not count, since they are taken.
    peer = opened();
    peer.send(1, "\r\n\r\n");
    fill(peer, 4095);
    Kit.due("8: 4095 held behind empty lines", peer.host.counted(4), 0);
  }

  private static void closeWait() {
    Peer peer = opened();
    peer.raw(1, Peer.ACK | Peer.FIN, peer.seq, peer.ack, "GET / HTTP/1.1\r\nHost: h\r\n");
    Kit.due("8: no head: closing down", peer.state(), 8);
    Kit.due("8: no answer", peer.host.counted(4), 0);
    peer = opened();
    peer.fin(1);
    Kit.due("8: nothing: closing down", peer.state(), 8);
    peer = opened();
    peer.raw(1, Peer.ACK | Peer.FIN, peer.seq, peer.ack, "\r\n");
    Kit.due("8: an empty line: closing down", peer.state(), 8);
    Kit.due("7: it was taken", peer.look(11), 0);
  }

  private static void methodLength() {
    due("no method", " / HTTP/1.1\r\nHost: h\r\n\r\n", 400);
    due("1 letter", "G / HTTP/1.1\r\nHost: h\r\n\r\n", 405);
    due("16 letters", "GETGETGETGETGETG / HTTP/1.1\r\nHost: h\r\n\r\n", 405);
    due("17 letters", "GETGETGETGETGETGE / HTTP/1.1\r\nHost: h\r\n\r\n", 400);
    due("GET", "GET / HTTP/1.1\r\nHost: h\r\n\r\n", 200);
    due("HEAD", "HEAD / HTTP/1.1\r\nHost: h\r\n\r\n", 200);
    due("GETS", "GETS / HTTP/1.1\r\nHost: h\r\n\r\n", 405);
    due("HEA", "HEA / HTTP/1.1\r\nHost: h\r\n\r\n", 405);
    due("HEADS", "HEADS / HTTP/1.1\r\nHost: h\r\n\r\n", 405);
  }

  private static void methodLetters() {
    for (int code = 0; code < 256; code++) {
      boolean letter = code >= 'A' && code <= 'Z';
      if (code != 10) {
        due("method with " + code, "G" + (char) code + "X / HTTP/1.1\r\nHost: h\r\n\r\n", letter ? 405 : 400);
        due("method begins with " + code, (char) code + "X / HTTP/1.1\r\nHost: h\r\n\r\n", letter ? 405 : 400);
      }
    }
  }

  private static void targetCodes() {
    for (int code = 0; code < 256; code++) {
      if (code == 10 || code == '%') {
        continue;
      }
      boolean right = code >= 33 && code <= 126;
      due("target with " + code, get("/?" + (char) code + "x"), right ? 200 : 400);
      due("target ends with " + code, get("/?x" + (char) code), right ? 200 : 400);
      due("target begins with " + code, get((char) code + "x"), code == '/' ? 404 : 400);
    }
    due("33 and 126 in a path", get("/!~"), 200);
    due("no target", "GET  HTTP/1.1\r\nHost: h\r\n\r\n", 400);
  }

  private static void justTwoBlanks() {
    due("one", "GET /HTTP/1.1\r\nHost: h\r\n\r\n", 400);
    due("one before the version", "GET/ HTTP/1.1\r\nHost: h\r\n\r\n", 400);
    due("three", "GET / x HTTP/1.1\r\nHost: h\r\n\r\n", 400);
    due("two at the first place", "GET  / HTTP/1.1\r\nHost: h\r\n\r\n", 400);
    due("two at the second place", "GET /  HTTP/1.1\r\nHost: h\r\n\r\n", 400);
    due("one at the end", "GET / HTTP/1.1 \r\nHost: h\r\n\r\n", 400);
    due("one at the beginning", " GET / HTTP/1.1\r\nHost: h\r\n\r\n", 400);
    due("a tab", "GET /\tHTTP/1.1\r\nHost: h\r\n\r\n", 400);
  }

  private static void versions() {
    String[] versions = {"HTTP/1.1", "HTTP/1.0", "HTTP/1.2", "HTTP/0.1", "HTTP/2.1", "HTTP/1.", "HTTP/1.10", "HTTP/11", "http/1.1",
        "HTTP/1,1", "HTTQ/1.1", "", "H"};
    for (int i = 0; i < versions.length; i++) {
      due("version " + versions[i], "GET / " + versions[i] + "\r\nHost: h\r\n\r\n", i < 2 ? 200 : 400);
    }
  }

  private static void fieldNames() {
    for (int code = 0; code < 256; code++) {
      boolean letter = code >= 'a' && code <= 'z' || code >= 'A' && code <= 'Z' || code >= '0' && code <= '9';
      boolean right = letter || code > 0 && "-_.!#$%&'*+^`|~".indexOf(code) >= 0;
      if (code == 10) {
        continue;
      }
      due("name " + code, with((char) code + ": y\r\n"), right ? 200 : 400);
      if (code != ':') {
        due("name with " + code, with("X" + (char) code + "Z: y\r\n"), right ? 200 : 400);
        due("name ends with " + code, with("X" + (char) code + ": y\r\n"), right ? 200 : 400);
      }
    }
    due("no colon", with("X\r\n"), 400);
    due("a colon alone", with(":\r\n"), 400);
    due("no name", with(": y\r\n"), 400);
    due("great and small letters", "GET / HTTP/1.1\r\nhOsT: h\r\ntRANSFER-eNCODING: x\r\n\r\n", 501);
  }

  private static void fieldValues() {
    for (int code = 0; code < 256; code++) {
      boolean right = code == 9 || code >= 32 && code <= 126 || code >= 128;
      if (code != 10) {
        due("value with " + code, with("X: a" + (char) code + "b\r\n"), right ? 200 : 400);
        due("value " + code, with("X:" + (char) code + "\r\n"), right ? 200 : 400);
      }
    }
    due("no value", with("X:\r\n"), 200);
    due("colons in it", with("X: a:b:\r\n"), 200);
    due("a value of 10 alone behind it", with("X:\n"), 200);
  }

  /** Blanks and tabs at a value's ends are no part of it. */
  private static void valueEnds() {
    for (String ends : new String[] {"", " ", "\t", " \t ", "   "}) {
      due("Content-Length", with("Content-Length:" + ends + "0" + ends + "\r\n"), 200);
      due("If-None-Match", with("If-None-Match:" + ends + "*" + ends + "\r\n"), 304);
    }
    due("a blank inside", with("Content-Length: 0 0\r\n"), 400);
    due("160 is no blank", with("Content-Length: 0\u00a0\r\n"), 400);
    due("blanks alone are no value", with("Content-Length: \t \r\n"), 400);
    due("blanks before a name", with(" X: y\r\n"), 400);
    due("a blank before the colon", with("X : y\r\n"), 400);
    due("a tab before the colon", with("X\t: y\r\n"), 400);
  }

  private static void hostOnce() {
    String[] hosts = {"", "Host: h\r\n", "Host: h\r\nHost: h\r\n", "Host: h\r\nX: y\r\nhost:\r\n"};
    int[] due11 = {400, 200, 400, 400};
    int[] due10 = {200, 200, 400, 400};
    for (int i = 0; i < hosts.length; i++) {
      due("1.1, host " + i, "GET / HTTP/1.1\r\n" + hosts[i] + "\r\n", due11[i]);
      due("1.0, host " + i, "GET / HTTP/1.0\r\n" + hosts[i] + "\r\n", due10[i]);
    }
    due("an empty value is one", "GET / HTTP/1.1\r\nHost:\r\n\r\n", 200);
    due("another name is none", "GET / HTTP/1.1\r\nHosts: h\r\n\r\n", 400);
    due("nor a shorter one", "GET / HTTP/1.1\r\nHos: h\r\n\r\n", 400);
  }

  private static void transferEncoding() {
    due("there", with("Transfer-Encoding: identity\r\n"), 501);
    due("without value", with("Transfer-Encoding:\r\n"), 501);
    due("twice", with("Transfer-Encoding: a\r\nTransfer-Encoding: b\r\n"), 501);
    due("behind a wrong Host", with("Transfer-Encoding: x\r\nHost: h\r\n"), 400);
    due("before a wrong Content-Length", with("Content-Length: x\r\nTransfer-Encoding: x\r\n"), 501);
    due("before 413", with("Content-Length: 65537\r\nTransfer-Encoding: x\r\n"), 501);
    due("before 405", "PUT / HTTP/1.1\r\nHost: h\r\nTransfer-Encoding: x\r\n\r\n", 501);
    due("another name", with("Transfer-Encodin: x\r\n"), 200);
  }

  private static void contentLengthDigits() {
    due("0 digits", with("Content-Length:\r\n"), 400);
    due("1 digit", with("Content-Length: 9\r\n"), 200);
    due("9 digits", with("Content-Length: 000000009\r\n"), 200);
    due("10 digits", with("Content-Length: 0000000009\r\n"), 400);
    due("9 digits, the greatest", with("Content-Length: 999999999\r\n"), 413);
    due("10 digits, above all ints", with("Content-Length: 9999999999\r\n"), 400);
    due("11 digits that wrap to 0", with("Content-Length: 42949672960\r\n"), 400);
    due("once", with("Content-Length: 1\r\n"), 200);
    due("twice", with("Content-Length: 1\r\nContent-Length: 1\r\n"), 400);
    due("twice, the first wrong", with("Content-Length: x\r\nContent-Length: 1\r\n"), 400);
    for (int code = 0; code < 256; code++) {
      if (code != 10) {
        boolean digit = code >= '0' && code <= '9';
        due("digit " + code, with("Content-Length: 1" + (char) code + "1\r\n"), digit ? 200 : 400);
      }
    }
  }

  private static void contentLengthAbove65536() {
    due("65535", with("Content-Length: 65535\r\n"), 200);
    due("65536", with("Content-Length: 65536\r\n"), 200);
    due("65537", with("Content-Length: 65537\r\n"), 413);
    due("65537 with PUT", "PUT / HTTP/1.1\r\nHost: h\r\nContent-Length: 65537\r\n\r\n", 413);
    due("65536 with PUT", "PUT / HTTP/1.1\r\nHost: h\r\nContent-Length: 65536\r\n\r\n", 405);
  }

  /** What is held of ten bytes behind a head that tells a body of nine. */
  private static void leftOut(String request, int number, int held) {
    Peer peer = opened();
    peer.send(1, request + "0123456789");
    Kit.due("8: the answer", number(peer.data(0)), "" + number);
    Kit.due("8: what is held behind " + number, peer.look(11), held);
  }

  private static void bodyLeftOut() {
    String nine = "Content-Length: 9\r\n";
    leftOut(with(nine), 200, 1);
    leftOut(with("Content-Length: 0\r\n"), 200, 10);
    leftOut(with("Content-Length: 10\r\n"), 200, 0);
    leftOut(with("Content-Length: 11\r\n"), 200, 0);
    leftOut(with(""), 200, 10);
    leftOut(with(nine + "If-None-Match: *\r\n"), 304, 1);
    leftOut("GET /none HTTP/1.1\r\nHost: h\r\n" + nine + "\r\n", 404, 1);
    leftOut("PUT / HTTP/1.1\r\nHost: h\r\n" + nine + "\r\n", 405, 1);
    leftOut("GET /%zz HTTP/1.1\r\nHost: h\r\n" + nine + "\r\n", 400, 10);
    leftOut(with(nine + "Host: h\r\n"), 400, 10);
    leftOut(with("Content-Length: 65537\r\n"), 413, 10);
    leftOut(with(nine + "Transfer-Encoding: x\r\n"), 501, 10);
    Peer peer = opened();
    int place = Kit.latin(image()).indexOf("some text");
    peer.host.damage(place, 'S');
    peer.send(1, with(nine) + "0123456789");
    Kit.due("8: the answer", number(peer.data(0)), "500");
    Kit.due("8: what is held behind 500", peer.look(11), 1);
  }

  private static void bodyOf65536() {
    Peer peer = opened();
    peer.send(1, "PUT / HTTP/1.1\r\nHost: h\r\nContent-Length: 65536\r\n\r\n");
    peer.ackMore(1, peer.data(0).length());
    for (int left = 65536; left > 0; left -= 1400) {
      peer.send(1, "\n".repeat(Math.min(left, 1400)));
      Kit.due("8: taken at once", peer.look(11), 0);
    }
    Kit.due("8: one answer", peer.host.counted(4), 1);
    peer.send(1, get("/a.txt"));
    Kit.due("8: then the next head", number(peer.data(0)), "200");
  }

  private static void percent() {
    String[] wrong = {"/%", "/%4", "/x%", "/x%4", "/%?", "/%4?1", "/%%41", "/%4%41", "/%zz"};
    for (String target : wrong) {
      due(target, get(target), 400);
    }
    due("behind the first ?", get("/?%"), 200);
    due("behind the second ?", get("/??%4"), 200);
    due("right before the ?", get("/a%2etxt?%"), 200);
    due("for a ?: no end of the path", get("/a%3fb"), 200);
    due("for a %: no new one", get("/%25"), 200);
    due("for a %: not looked at again", get("/%2541"), 404);
    due("405 is before", "PUT /% HTTP/1.1\r\nHost: h\r\n\r\n", 405);
    due("404 is behind", get("/none%"), 400);
    for (int code = 33; code < 127; code++) {
      boolean hex = code >= '0' && code <= '9' || code >= 'a' && code <= 'f' || code >= 'A' && code <= 'F';
      if (code != '?') {
        due("second digit " + (char) code, get("/%6" + (char) code), hex ? 404 : 400);
      }
      boolean high = code >= '2' && code <= '7';
      due("first digit " + (char) code, get("/%" + (char) code + "1"), high ? 404 : 400);
    }
    due("small and great digits", get("/%61%2E%74x%74"), 200);
  }

  private static void percentCodes() {
    for (int code = 0; code < 256; code++) {
      boolean right = code >= 33 && code <= 126;
      due("code " + code, get(String.format("/none%%%02x", code)), right ? 404 : 400);
      due("code " + code, get(String.format("/none%%%02X", code)), right ? 404 : 400);
    }
    due("33 and 126", get("/%21%7e"), 200);
  }

  private static void pathUpTo47() {
    String name = "/" + "n".repeat(46);
    due("47 codes", get(name), 200);
    due("48 codes", get(name + "n"), 404);
    due("46 codes", get("/" + "n".repeat(45)), 404);
    due("47 codes, one by %", get("/%6e" + "n".repeat(45)), 200);
    due("47 codes, all by %", get("/" + "%6e".repeat(46)), 200);
    due("48 codes, all by %", get("/" + "%6e".repeat(47)), 404);
    due("47 codes and a query", get(name + "?" + "q".repeat(500)), 200);
    due("a fault far behind 47 codes", get(name + "n".repeat(500) + "%"), 400);
    due("48 codes with a 0 for the name's rest", get("/a.txt" + "%00"), 400);
  }

  private static void pathEndsWithSlash() {
    due("37 codes and index.html", get(N37), 200);
    due("by %", get(N37.substring(0, 36) + "%2f"), 200);
    due("and a query", get(N37 + "?x"), 200);
    due("38 codes and index.html", get("/" + "d".repeat(36) + "/"), 404);
    due("/", get("/"), 200);
    due("no / at its end", get("/a/b"), 200);
    due("a / in the query", get("/a.txt?/"), 200);
    due("a ? at once behind /", get("/?"), 200);
    due("two", get("//"), 404);
  }

  private static void noneMatch() {
    String mark = String.format("%08x", Kit.check(Kit.latin("some text")));
    String field = "If-None-Match: ";
    due("the mark", with(field + "\"" + mark + "\"\r\n"), 304);
    for (int i = 0; i < 8; i++) {
      char other = mark.charAt(i) == '0' ? '1' : '0';
      due("digit " + i, with(field + "\"" + mark.substring(0, i) + other + mark.substring(i + 1) + "\"\r\n"), 200);
    }
    due("without \"", with(field + mark + "\r\n"), 200);
    due("without the first \"", with(field + mark + "\"\r\n"), 200);
    due("without the last \"", with(field + "\"" + mark + "\r\n"), 200);
    due("one digit more", with(field + "\"" + mark + "0\"\r\n"), 200);
    due("one digit less", with(field + "\"" + mark.substring(0, 7) + "\"\r\n"), 200);
    due("*", with(field + "*\r\n"), 304);
    due("**", with(field + "**\r\n"), 200);
    due("\"*\"", with(field + "\"*\"\r\n"), 200);
    due("no value", with(field + "\r\n"), 200);
    due("twice", with((field + "*\r\n").repeat(2)), 200);
    due("twice, one of another kind", with(field + "*\r\n" + field + "x\r\n"), 200);
    due("with HEAD", "HEAD /a.txt HTTP/1.1\r\nHost: h\r\nIf-None-Match: *\r\n\r\n", 304);
    Kit.due("8: 304 whole", answer(with(field + "*\r\n")), "HTTP/1.1 304 Not Modified\r\nETag: \"" + mark + "\"\r\n\r\n");
  }

  private static void persists(String version, String fields, boolean want) {
    Peer peer = opened();
    peer.send(1, "GET / HTTP/" + version + "\r\nHost: h\r\n" + fields + "\r\n");
    Kit.due("8: " + version + " " + fields, peer.state(), want ? 2 : 3);
    Kit.due("8: told", peer.data(0).contains(CLOSE), !want);
  }

  private static void persistentWords() {
    persists("1.1", "", true);
    persists("1.1", "Connection: close\r\n", false);
    persists("1.1", "Connection: keep-alive\r\n", true);
    persists("1.1", "Connection: clos\r\n", true);
    persists("1.1", "Connection: closes\r\n", true);
    persists("1.1", "Connection: aclose\r\n", true);
    persists("1.1", "Connection: close;x\r\n", true);
    persists("1.1", "Connection: close,x\r\n", false);
    persists("1.1", "Connection: x,close\r\n", false);
    persists("1.1", "Connection: x close y\r\n", false);
    persists("1.1", "Connection: x\tclose\ty\r\n", false);
    persists("1.1", "Connection: ,,close,,\r\n", false);
    persists("1.1", "Connection: CLOSE\r\n", false);
    persists("1.1", "CONNECTION: cLoSe\r\n", false);
    persists("1.1", "Connection:\r\n", true);
    persists("1.1", "X-Connection: close\r\n", true);
    persists("1.1", "X: close\r\n", true);
    persists("1.1", "Connection: close-x\r\n", true);
    persists("1.1", "Connection: +close\r\n", true);
    persists("1.0", "", false);
    persists("1.0", "Connection: keep-alive\r\n", true);
    persists("1.0", "Connection: KEEP-ALIVE\r\n", true);
    persists("1.0", "Connection: keep-aliv\r\n", false);
    persists("1.0", "Connection: keep-alives\r\n", false);
    persists("1.0", "Connection: keep alive\r\n", false);
    persists("1.0", "X: keep-alive\r\n", false);
    persists("1.0", "Connection: close, keep-alive\r\n", false);
    persists("1.0", "Connection: keep-alive\r\nConnection: close\r\n", false);
    persists("1.0", "Connection: close\r\nConnection: keep-alive\r\n", false);
    persists("1.0", "Connection: x\r\nConnection: keep-alive\r\n", true);
  }

  private static void closes(String request, int number, boolean want) {
    Peer peer = opened();
    peer.send(1, request);
    Kit.due("8: the answer", number(peer.data(0)), "" + number);
    Kit.due("8: closing down behind " + number, peer.state(), want ? 3 : 2);
    Kit.due("8: told", peer.data(0).contains("\r\n" + CLOSE), want);
  }

  private static void closingAnswers() {
    closes(with(""), 200, false);
    closes(with("If-None-Match: *\r\n"), 304, false);
    closes("x\r\n\r\n", 400, true);
    closes(with("x\r\n"), 400, true);
    closes(get("/none"), 404, false);
    closes("PUT / HTTP/1.1\r\nHost: h\r\n\r\n", 405, false);
    closes(with("Content-Length: 65537\r\n"), 413, true);
    closes(with("Transfer-Encoding: x\r\n"), 501, true);
    closes("GET /none HTTP/1.0\r\n\r\n", 404, true);
    closes("PUT / HTTP/1.0\r\n\r\n", 405, true);
    closes("GET /a.txt HTTP/1.0\r\nIf-None-Match: *\r\n\r\n", 304, true);
  }

  private static void methodTakenAsGet() {
    String body = "400 Bad Request\n";
    Kit.due("8: a faulty request line with HEAD", answer("HEAD / HTTP/9.9\r\n\r\n").endsWith("\r\n\r\n" + body), true);
    Kit.due("8: a faulty field with HEAD", answer("HEAD / HTTP/1.1\r\nx\r\n\r\n").endsWith("\r\n\r\n"), true);
    Kit.due("8: the length is told all the same",
        answer("HEAD / HTTP/1.1\r\nx\r\n\r\n").contains("\r\nContent-Length: 16\r\n"), true);
    Kit.due("8: 405 has a body", answer("PUT / HTTP/1.1\r\nHost: h\r\n\r\n").endsWith("\r\n\r\n405 Method Not Allowed\n"), true);
    // A HEAD before does not matter for a faulty line or for 431 behind it.
    Peer peer = opened();
    peer.send(1, "HEAD / HTTP/1.1\r\nHost: h\r\n\r\n");
    peer.ackMore(1, peer.data(0).length());
    peer.send(1, "x\r\n\r\n");
    Kit.due("8: behind a HEAD", peer.data(0).endsWith("\r\n\r\n" + body), true);
    peer = opened();
    peer.send(1, "HEAD / HTTP/1.1\r\nHost: h\r\n\r\n");
    peer.ackMore(1, peer.data(0).length());
    fill(peer, 4096);
    Kit.due("8: 431 behind a HEAD", peer.data(0).endsWith("\r\n\r\n431 Request Header Fields Too Large\n"), true);
  }

  private static void contentLengths() {
    for (int n : new int[] {0, 1, 9, 10, 11, 99, 100, 101, 999, 1000, 9999, 10000}) {
      Peer peer = new Peer(Kit.booted(Kit.image("/f", "z".repeat(n))), P, 5000).open(0);
      peer.send(1, "HEAD /f HTTP/1.1\r\nHost: h\r\n\r\n");
      Kit.due("8: a file of " + n, peer.data(0).substring(17, 36 + ("" + n).length()), "Content-Length: " + n + "\r\nC");
      Kit.due("8: the body is not sent", peer.data(0).endsWith("\r\n\r\n"), true);
    }
  }

  private static void types() {
    String[] names = {"/.html", "/x.htm", "/x.html", "/x.HTML", "/html", "/x.htmlx", "/.css", "/.js", "/.txt", "/.png", "/x.json", "/xhtml",
        "/x.html.txt"};
    String[] types = {"text/html", "application/octet-stream", "text/html", "application/octet-stream", "application/octet-stream",
        "application/octet-stream", "text/css", "text/javascript", "text/plain", "image/png", "application/octet-stream",
        "application/octet-stream", "text/plain"};
    for (int i = 0; i < names.length; i++) {
      Peer peer = new Peer(Kit.booted(Kit.image(names[i], "z")), P, 5000).open(0);
      peer.send(1, get(names[i] + "?x.png"));
      Kit.due("8: type of " + names[i], peer.data(0).contains("\r\nContent-Type: " + types[i] + "\r\n"), true);
    }
  }

  private static void fileCheck() {
    byte[] image = Kit.image("/a", "abcdefgh", "/none", "");
    int place = image.length - 8;
    for (int i = 0; i < 8; i++) {
      Peer peer = new Peer(Kit.booted(image), P, 5000).open(0);
      Kit.due("18: damaged", peer.host.damage(place + i, image[place + i] ^ 1), true);
      peer.send(1, get("/a"));
      Kit.due("8: byte " + i + " is another one", number(peer.data(0)), "500");
    }
    Peer peer = new Peer(Kit.booted(image), P, 5000).open(0);
    peer.host.damage(place - 1, 0);
    peer.send(1, get("/a"));
    Kit.due("8: the byte before is no part of it", number(peer.data(0)), "200");
    peer = new Peer(Kit.booted(image), P, 5000).open(0);
    peer.send(1, get("/none"));
    Kit.due("8: an empty file is whole", number(peer.data(0)), "200");
  }
}
