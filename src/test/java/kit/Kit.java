import java.io.ByteArrayOutputStream;
import java.nio.charset.StandardCharsets;
import java.util.Arrays;
import java.util.zip.CRC32;

/** A host with the means to feed it images and frames and to read what it sent. */
final class Kit {
  static final int IP = 0x0A000002;
  static final int GATE = 0x0A000001;
  static final byte[] MAC = hex("020000000001");
  static final byte[] ALL = hex("ffffffffffff");

  private static int wrong = 0;
  private static int checks = 0;

  final WebHost host = new WebHost();

  static void due(String what, long got, long want) {
    checks++;
    if (got != want) {
      wrong++;
      System.out.println(what + " answered " + got + ", due is " + want);
    }
  }

  static void due(String what, boolean got, boolean want) {
    due(what, got ? 1 : 0, want ? 1 : 0);
  }

  static void due(String what, String got, String want) {
    checks++;
    if (!got.equals(want)) {
      wrong++;
      System.out.println(what + " answered [" + got + "], due is [" + want + "]");
    }
  }

  static void finish() {
    System.out.println(checks + " answers looked at, " + wrong + " wrong");
    if (wrong != 0) {
      System.exit(1);
    }
  }

  /** A booted host at 10.0.0.2/24 with an image. */
  static Kit booted(byte[] image) {
    Kit kit = new Kit();
    kit.put(image);
    kit.host.install();
    int files = kit.host.boot(IP, 24, GATE, 0x0200, 1);
    if (files < 0) {
      due("boot", files, 0);
    }
    return kit;
  }

  static Kit booted() {
    return booted(image("/index.html", "<h1>hi</h1>\n", "/a.txt", "some text"));
  }

  /** A booted host that has a number in its cache. */
  static Kit knowing(int ip) {
    Kit kit = booted();
    kit.arrive(tell(ip), 0);
    return kit;
  }

  /** What a new host answers when it boots an image. */
  static int bootOf(byte[] image) {
    Kit kit = new Kit();
    kit.put(image);
    kit.host.install();
    return kit.host.boot(IP, 24, GATE, 0x0200, 1);
  }

  void put(byte[] bytes) {
    for (int i = 0; i < bytes.length; i += 20) {
      byte[] part = Arrays.copyOf(Arrays.copyOfRange(bytes, i, Math.min(i + 20, bytes.length)), 20);
      host.feed(four(part, 0), four(part, 4), four(part, 8), four(part, 12), four(part, 16));
    }
    host.end(bytes.length);
  }

  /** Lets a frame arrive, and looks whether all that was sent then is well formed. */
  int arrive(byte[] frame, int time) {
    put(frame);
    int n = host.arrive(time);
    for (int i = 0; i < Math.min(n, 32); i++) {
      String fault = faultOf(frame(i));
      due("19: a frame sent at " + time + ": " + fault, fault.length(), 0);
    }
    due("19: strays", host.strays(), 0);
    return n;
  }

  /** All that can be seen of the host without changing it, so that a call can be shown to change nothing. */
  String seen() {
    StringBuilder text = new StringBuilder("now " + host.now() + " sent " + host.sent());
    text.append(" waiting ").append(host.waiting()).append(" strays ").append(host.strays());
    for (int i = 0; i < 8; i++) {
      text.append(" counted ").append(host.counted(i));
    }
    for (int i = 0; i < 32 && host.length(i) >= 0; i++) {
      text.append('\n').append(host.time(i)).append(' ').append(hex(frame(i)));
    }
    for (int place = 0; place < 16; place++) {
      text.append('\n').append(host.state(place));
      for (int what = 0; what < 15; what++) {
        text.append(' ').append(host.look(place, what));
      }
    }
    for (int last = 0; last < 256; last++) {
      text.append(host.cached(IP & 0xFFFFFF00 | last) ? "c" : "-");
    }
    return text.toString();
  }

  /** Whether the tray has just so many bytes; it is left as it was. */
  boolean trayHas(int n) {
    return host.end(n + 1) == -1 && host.end(n) == n;
  }

  /** The bytes of a frame sent, i counted back. */
  byte[] frame(int i) {
    int n = Math.max(0, host.length(i));
    byte[] bytes = new byte[n];
    for (int k = 0; k < n; k++) {
      bytes[k] = (byte) host.at(i, k);
    }
    return bytes;
  }

  static int one(byte[] b, int i) {
    return b[i] & 255;
  }

  static int two(byte[] b, int i) {
    return one(b, i) << 8 | one(b, i + 1);
  }

  static int four(byte[] b, int i) {
    return two(b, i) << 16 | two(b, i + 2);
  }

  static byte[] two(int v) {
    return new byte[] {(byte) (v >> 8), (byte) v};
  }

  static byte[] four(int v) {
    return new byte[] {(byte) (v >> 24), (byte) (v >> 16), (byte) (v >> 8), (byte) v};
  }

  static byte[] hex(String text) {
    String digits = text.replace(" ", "");
    byte[] bytes = new byte[digits.length() / 2];
    for (int i = 0; i < bytes.length; i++) {
      bytes[i] = (byte) Integer.parseInt(digits.substring(2 * i, 2 * i + 2), 16);
    }
    return bytes;
  }

  static String hex(byte[] bytes) {
    StringBuilder text = new StringBuilder();
    for (byte b : bytes) {
      text.append(String.format("%02x", b));
    }
    return text.toString();
  }

  static byte[] latin(String text) {
    return text.getBytes(StandardCharsets.ISO_8859_1);
  }

  static String latin(byte[] bytes) {
    return new String(bytes, StandardCharsets.ISO_8859_1);
  }

  /** So many letters, in an order that shows where a part of them comes from. */
  static String letters(int n) {
    StringBuilder text = new StringBuilder();
    for (int i = 0; i < n; i++) {
      text.append((char) ('A' + i % 23));
    }
    return text.toString();
  }

  static byte[] join(byte[]... parts) {
    ByteArrayOutputStream all = new ByteArrayOutputStream();
    for (byte[] part : parts) {
      all.write(part, 0, part.length);
    }
    return all.toByteArray();
  }

  static int check(byte[] bytes) {
    CRC32 crc = new CRC32();
    crc.update(bytes);
    return (int) crc.getValue();
  }

  /** The internet's sum of 16 bits. */
  static int sum(byte[] bytes) {
    long sum = 0;
    for (int i = 0; i < bytes.length; i++) {
      sum += (long) one(bytes, i) << (i % 2 == 0 ? 8 : 0);
    }
    while (sum > 0xFFFF) {
      sum = (sum & 0xFFFF) + (sum >> 16);
    }
    return (int) (~sum & 0xFFFF);
  }

  /** Names and contents by turns; contents are texts or bytes. */
  static byte[] image(Object... namesAndContents) {
    int n = namesAndContents.length / 2;
    byte[] table = join(latin("STOR"), two(n), two(0));
    byte[] bodies = new byte[0];
    for (int i = 0; i < n; i++) {
      Object content = namesAndContents[2 * i + 1];
      byte[] body = content instanceof byte[] ? (byte[]) content : latin((String) content);
      byte[] name = Arrays.copyOf(latin((String) namesAndContents[2 * i]), 48);
      int place = 8 + 64 * n + 4 + bodies.length;
      table = join(table, name, four(place), four(body.length), four(check(body)), four(0));
      bodies = join(bodies, body);
    }
    return join(sealed(table), bodies);
  }

  /** An image of so many empty files. */
  static byte[] imageOf(int n) {
    Object[] files = new Object[2 * n];
    for (int i = 0; i < n; i++) {
      files[2 * i] = "/" + i;
      files[2 * i + 1] = "";
    }
    return image(files);
  }

  /** A table with its check behind it. */
  static byte[] sealed(byte[] table) {
    return join(table, four(check(table)));
  }

  static byte[] macOf(int ip) {
    return join(hex("0200"), four(ip));
  }

  static byte[] arp(byte[] to, int operation, byte[] senderMac, int senderIp, byte[] targetMac, int targetIp) {
    return join(to, senderMac, hex("0806 0001 0800 06 04"), two(operation), senderMac, four(senderIp),
        targetMac, four(targetIp));
  }

  /** An ASK for our number, which puts the sender into the cache. */
  static byte[] ask(int ip) {
    return arp(ALL, 1, macOf(ip), ip, new byte[6], IP);
  }

  static byte[] tell(int ip) {
    return arp(MAC, 2, macOf(ip), ip, MAC, IP);
  }

  static byte[] header(int from, int to, int id, int piece, int protocol, int length) {
    byte[] header = join(hex("4500"), two(20 + length), two(id), two(piece), two(64 << 8 | protocol), two(0),
        four(from), four(to));
    byte[] sum = two(sum(header));
    header[10] = sum[0];
    header[11] = sum[1];
    return header;
  }

  static byte[] packet(int from, int id, int piece, int protocol, byte[] payload) {
    return join(MAC, macOf(from), hex("0800"), header(from, IP, id, piece, protocol, payload.length), payload);
  }

  static byte[] packet(int from, int protocol, byte[] payload) {
    return packet(from, 7, 0x4000, protocol, payload);
  }

  static byte[] echo(int id, String data) {
    byte[] message = join(hex("0800 0000"), two(id), two(1), latin(data));
    byte[] sum = two(sum(message));
    message[2] = sum[0];
    message[3] = sum[1];
    return message;
  }

  static byte[] tcp(int from, int[] fields, byte[] options, byte[] data) {
    byte[] segment = join(two(fields[0]), two(fields[1]), four(fields[2]), four(fields[3]),
        two((20 + options.length) / 4 << 12 | fields[4]), two(fields[5]), two(0), two(0), options, data);
    byte[] sum = two(sum(join(four(from), four(IP), two(6), two(segment.length), segment)));
    segment[16] = sum[0];
    segment[17] = sum[1];
    return segment;
  }

  static byte[] slice(byte[] bytes, int from, int to) {
    return Arrays.copyOfRange(bytes, from, to);
  }

  /** What is not well formed in a frame that the host sent, by a look of our own; empty if all is. */
  static String faultOf(byte[] frame) {
    if (frame.length < 60 || frame.length > 1514) {
      return "length " + frame.length;
    }
    if (!Arrays.equals(slice(frame, 6, 12), MAC)) {
      return "sender's address";
    }
    int kind = two(frame, 12);
    if (kind == 0x0806) {
      return Arrays.equals(slice(frame, 14, 20), hex("000108000604")) ? "" : "ARP head";
    }
    if (kind != 0x0800) {
      return "kind " + kind;
    }
    int total = two(frame, 16);
    if (two(frame, 14) != 0x4500 || total + 14 > frame.length || frame.length > Math.max(60, total + 14)) {
      return "total length";
    }
    if (sum(slice(frame, 14, 34)) != 0 || four(frame, 26) != IP) {
      return "IP header";
    }
    byte[] payload = slice(frame, 34, 14 + total);
    if (one(frame, 23) == 1) {
      return sum(payload) == 0 ? "" : "ICMP sum";
    }
    byte[] pseudo = join(slice(frame, 26, 34), two(6), two(payload.length));
    return one(frame, 23) == 6 && sum(join(pseudo, payload)) == 0 ? "" : "TCP sum";
  }
}
