import java.util.Arrays;

/** Point 4 of the terms: the boundaries of IP, fragments, ICMP, and of the packets that are sent. */
public final class IpEdges {
  private static final int P = 0x0A000009;

  public static void main(String[] args) {
    atLeast20Bytes();
    version4();
    headerLength();
    totalLength();
    headerSum();
    toOurNumber();
    senderNotOurs();
    sendersFirstByte();
    moreToComeCarries();
    endAbove4096();
    belongTogether();
    atMostFourInTheMaking();
    bytesStay();
    anotherEnd();
    bytesBeyondTheEnd();
    endBeforeBytes();
    contradictionDropsTheFragmentToo();
    lastCarriesNothing();
    droppedBehind15000();
    asIfItHadComeWhole();
    identificationWraps();
    echoAtLeast8();
    echoTypeAndCode();
    echoSum();
    echoNotAbove1480();
    protocols();
    Kit.finish();
  }

  /** A frame with a header as told, its sum made right, and an echo behind it. */
  private static byte[] frame(byte[] header, byte[] payload) {
    byte[] bytes = header.clone();
    bytes[10] = 0;
    bytes[11] = 0;
    byte[] sum = Kit.two(Kit.sum(bytes));
    bytes[10] = sum[0];
    bytes[11] = sum[1];
    return Kit.join(Kit.MAC, Kit.macOf(P), Kit.hex("0800"), bytes, payload);
  }

  private static byte[] echo() {
    return Kit.echo(1, "abcdefgh");
  }

  private static byte[] header(int length) {
    return Kit.header(P, Kit.IP, 7, 0x4000, 1, length);
  }

  /** What comes back when a byte of the header is another one, with a right sum. */
  private static int changed(int i, int value) {
    byte[] header = header(16);
    header[i] = (byte) value;
    return Kit.knowing(P).arrive(frame(header, echo()), 1);
  }

  private static void atLeast20Bytes() {
    byte[] whole = frame(header(0), new byte[0]);
    for (int n = 14; n < 34; n++) {
      Kit.due("4: " + (n - 14) + " bytes", Kit.knowing(P).arrive(Kit.slice(whole, 0, n), 1), 0);
    }
    Kit.due("4: the whole", Kit.knowing(P).arrive(frame(header(16), echo()), 1), 1);
  }

  private static void version4() {
    for (int version = 0; version < 16; version++) {
      Kit.due("4: version " + version, changed(0, version << 4 | 5), version == 4 ? 1 : 0);
    }
  }

  /** A header of so many words with nothing but 1 behind its first twenty bytes. */
  private static byte[] worded(int words, int total) {
    byte[] header = Arrays.copyOf(header(total - 20), words * 4);
    Arrays.fill(header, 20, header.length, (byte) 1);
    header[0] = (byte) (0x40 | words);
    return header;
  }

  private static void headerLength() {
    for (int words = 0; words < 5; words++) {
      Kit.due("4: a header of " + 4 * words, changed(0, 0x40 | words), 0);
    }
    for (int words = 5; words < 16; words++) {
      Kit kit = Kit.knowing(P);
      Kit.due("4: a header of " + 4 * words, kit.arrive(frame(worded(words, 4 * words + 16), echo()), 1), 1);
      Kit.due("4: options are not looked at, nor sent", Kit.hex(Kit.slice(kit.frame(0), 42, 50)), Kit.hex(Kit.latin("abcdefgh")));
      Kit.due("4: 20 bytes of header", kit.host.at(0, 14), 0x45);
    }
    Kit.due("4: a header of 24, but 20 in all", Kit.knowing(P).arrive(frame(worded(6, 20), echo()), 1), 0);
    Kit.due("4: a header of 24, but 23 in all", Kit.knowing(P).arrive(frame(worded(6, 23), echo()), 1), 0);
    Kit.due("4: a header beyond the frame", Kit.knowing(P).arrive(Kit.slice(frame(worded(15, 76), echo()), 0, 60), 1), 0);
  }

  private static void totalLength() {
    Kit.due("4: 19", changed(3, 19), 0);
    Kit.due("4: 0", changed(3, 0), 0);
    Kit.due("4: what the frame carries", changed(3, 36), 1);
    Kit.due("4: one more", changed(3, 37), 0);
    Kit.due("4: 256 more", changed(2, 1), 0);
    Kit.due("4: 20, so nothing is carried", Kit.knowing(P).arrive(frame(header(0), echo()), 1), 0);
    Kit.due("4: what is behind is no part of it", Kit.knowing(P).arrive(frame(header(8), Kit.join(Kit.echo(1, ""), Kit.hex("55aa"))), 1), 1);
    // A segment of 20 bytes with others behind it has no data.
    Kit kit = Kit.knowing(P);
    byte[] segment = Kit.tcp(P, new int[] {5000, 81, 7, 0, 0, 100}, new byte[0], new byte[0]);
    byte[] header = Kit.header(P, Kit.IP, 7, 0, 6, 20);
    Kit.due("4: nor of a segment", kit.arrive(frame(header, Kit.join(segment, new byte[6])), 1), 1);
    Kit.due("5: its length is 0", Kit.four(kit.frame(0), 42), 7);
  }

  private static void headerSum() {
    byte[] whole = frame(header(16), echo());
    for (int i = 14; i < 34; i++) {
      byte[] bad = whole.clone();
      bad[i] ^= 0x10;
      Kit.due("4: byte " + (i - 14), Kit.knowing(P).arrive(bad, 1), 0);
    }
    byte[] options = frame(worded(6, 40), echo());
    options[34] ^= 1;
    Kit.due("4: options count in it", Kit.knowing(P).arrive(options, 1), 0);
  }

  private static void toOurNumber() {
    for (int to : new int[] {Kit.IP - 1, Kit.IP + 1, Kit.IP ^ 0x80000000, -1, 0x0A0000FF, 0}) {
      byte[] header = Kit.header(P, to, 7, 0x4000, 1, 16);
      Kit.due("4: to " + Integer.toHexString(to), Kit.knowing(P).arrive(frame(header, echo()), 1), 0);
    }
    Kit.due("4: to ours", Kit.knowing(P).arrive(frame(Kit.header(P, Kit.IP, 7, 0x4000, 1, 16), echo()), 1), 1);
  }

  private static int from(int ip) {
    return Kit.knowing(P).arrive(frame(Kit.header(ip, Kit.IP, 7, 0x4000, 1, 16), echo()), 1);
  }

  private static void senderNotOurs() {
    Kit.due("4: ours", from(Kit.IP), 0);
    Kit.due("4: the one before", from(Kit.IP - 1), 1);
    Kit.due("4: the one behind", from(Kit.IP + 1), 1);
  }

  private static void sendersFirstByte() {
    int[] firsts = {0, 1, 126, 127, 128, 223, 224, 255};
    int[] due = {0, 1, 1, 0, 1, 1, 0, 0};
    for (int i = 0; i < firsts.length; i++) {
      Kit.due("4: first byte " + firsts[i] + ", least", from(firsts[i] << 24), due[i]);
      Kit.due("4: first byte " + firsts[i] + ", greatest", from(firsts[i] << 24 | 0xFFFFFF), due[i]);
    }
  }

  private static int piece(Kit kit, int time, int id, int piece, byte[] bytes) {
    return kit.arrive(Kit.packet(P, id, piece, 1, bytes), time);
  }

  /** Whether a first fragment of so many bytes is kept: the rest of its echo makes it whole then. */
  private static void moreToComeCarries() {
    for (int n = 0; n <= 24; n++) {
      Kit kit = Kit.knowing(P);
      byte[] whole = Kit.echo(1, "x".repeat(24));
      piece(kit, 1, 5, 0x2000, Kit.slice(whole, 0, n));
      int from = Math.max(8, n / 8 * 8);
      piece(kit, 2, 5, from / 8, Kit.slice(whole, from, 32));
      Kit.due("4: more to come behind " + n, kit.host.counted(1), n > 0 && n % 8 == 0 ? 1 : 0);
    }
  }

  private static void endAbove4096() {
    Kit kit = Kit.knowing(P);
    byte[] whole = Kit.echo(1, "x".repeat(4096 - 8));
    piece(kit, 1, 5, 0x2000, Kit.slice(whole, 0, 1400));
    piece(kit, 1, 5, 0x2000 | 175, Kit.slice(whole, 1400, 2800));
    piece(kit, 1, 5, 350, new byte[1297]);
    Kit.due("4: an end at 4097 is dropped alone", kit.host.counted(1), 0);
    piece(kit, 1, 5, 0x2000 | 350, new byte[1304]);
    Kit.due("4: 4104 with more to come too", kit.host.counted(1), 0);
    piece(kit, 1, 5, 350, Kit.slice(whole, 2800, 4096));
    Kit.due("4: an end at 4096", kit.host.counted(1), 1);
    kit = Kit.knowing(P);
    for (int from = 0; from < 4096; from += 1024) {
      piece(kit, 1, 6, 0x2000 | from / 8, new byte[1024]);
    }
    piece(kit, 1, 6, 512, new byte[1]);
    Kit.due("4: a byte at 4096 is too long", kit.host.counted(1), 0);
    piece(kit, 1, 6, 512, new byte[0]);
    Kit.due("4: none there is not", kit.host.counted(1), 1);
    Kit.due("4: the greatest offset", piece(kit, 1, 7, 0x1FFF, new byte[8]), 0);
    Kit.due("4: with more to come", piece(kit, 1, 7, 0x3FFF, new byte[1480]), 0);
    Kit.due("17: no more", kit.host.counted(1), 1);
    for (int id = 8; id < 12; id++) {
      piece(kit, 1, id, 0x2000, new byte[8]);
      piece(kit, 1, id, 1, new byte[8]);
    }
    Kit.due("4: what was dropped takes no room in the making", kit.host.counted(1), 5);
  }

  private static void belongTogether() {
    Kit kit = Kit.knowing(P);
    byte[] whole = echo();
    piece(kit, 1, 5, 0x2000, Kit.slice(whole, 0, 8));
    Kit.due("4: another identification", piece(kit, 1, 6, 1, Kit.slice(whole, 8, 16)), 0);
    Kit.due("4: another sender", kit.arrive(Kit.packet(P + 1, 5, 1, 1, Kit.slice(whole, 8, 16)), 1), 0);
    Kit.due("4: another protocol", kit.arrive(Kit.packet(P, 5, 1, 6, Kit.slice(whole, 8, 16)), 1), 0);
    Kit.due("17: none", kit.host.counted(1), 0);
    Kit.due("4: all the same", piece(kit, 1, 5, 1, Kit.slice(whole, 8, 16)), 1);
    Kit.due("4: identification 0", piece(kit, 1, 0, 0x2000, Kit.slice(whole, 0, 8)), 0);
    Kit.due("4: is one too", piece(kit, 1, 0, 1, Kit.slice(whole, 8, 16)), 1);
    Kit.due("4: the greatest", piece(kit, 1, 0xFFFF, 0x2000, Kit.slice(whole, 0, 8)), 0);
    Kit.due("4: is one too", piece(kit, 1, 0xFFFF, 1, Kit.slice(whole, 8, 16)), 1);
  }

  private static void atMostFourInTheMaking() {
    Kit kit = Kit.knowing(P);
    byte[] whole = echo();
    for (int id = 1; id <= 5; id++) {
      piece(kit, id, id, 0x2000, Kit.slice(whole, 0, 8));
    }
    Kit.due("4: the fifth was dropped", piece(kit, 6, 5, 1, Kit.slice(whole, 8, 16)), 0);
    Kit.due("4: more of the fourth is not", piece(kit, 6, 4, 1, Kit.slice(whole, 8, 16)), 1);
    Kit.due("4: now there is room", piece(kit, 6, 5, 1, Kit.slice(whole, 8, 16)), 0);
    Kit.due("4: but no more", piece(kit, 6, 6, 0x2000, Kit.slice(whole, 0, 8)), 0);
    Kit.due("4: so this is lost", piece(kit, 6, 6, 1, Kit.slice(whole, 8, 16)), 0);
    Kit.due("4: the fifth's rest", piece(kit, 6, 5, 0x2000, Kit.slice(whole, 0, 8)), 1);
    for (int id = 1; id <= 3; id++) {
      Kit.due("4: the others", piece(kit, 6, id, 1, Kit.slice(whole, 8, 16)), 1);
    }
  }

  private static void bytesStay() {
    Kit kit = Kit.knowing(P);
    byte[] whole = Kit.echo(1, "abcdefghijklmnop");
    byte[] other = new byte[24];
    Arrays.fill(other, (byte) '#');
    piece(kit, 1, 5, 0x2001, Kit.slice(whole, 8, 16));
    piece(kit, 1, 5, 0x2001, Kit.slice(other, 8, 16));
    piece(kit, 1, 5, 2, Kit.slice(whole, 16, 24));
    piece(kit, 1, 5, 1, Kit.slice(other, 8, 24));
    Kit.due("4: only the gap is filled", piece(kit, 1, 5, 0x2000, Kit.join(Kit.slice(whole, 0, 8), Kit.slice(other, 8, 24))), 1);
    Kit.due("4: all is as it came first", Kit.latin(Kit.slice(kit.frame(0), 42, 58)), "abcdefghijklmnop");
  }

  /** Ends at 24; then another fragment without more to come ends elsewhere. */
  private static void secondEnd(String what, int from, int to, boolean same) {
    Kit kit = Kit.knowing(P);
    byte[] whole = Kit.echo(1, "abcdefghijklmnop");
    piece(kit, 1, 5, 2, Kit.slice(whole, 16, 24));
    piece(kit, 2, 5, from / 8, new byte[to - from]);
    piece(kit, 3, 5, 0x2000, Kit.slice(whole, 0, 8));
    piece(kit, 4, 5, 0x2001, Kit.slice(whole, 8, 16));
    Kit.due("4: " + what, kit.host.counted(1), same ? 1 : 0);
    piece(kit, 5, 5, 2, Kit.slice(whole, 16, 24));
    Kit.due("4: what came behind was a new one", kit.host.counted(1), 1);
  }

  private static void anotherEnd() {
    secondEnd("the same end", 16, 24, true);
    secondEnd("the same end, without bytes", 24, 24, true);
    secondEnd("one more", 16, 25, false);
    secondEnd("one less", 16, 23, false);
    secondEnd("another end without bytes", 16, 16, false);
    secondEnd("an end behind it without bytes", 32, 32, false);
  }

  private static void beyond(int from, int to, int due) {
    Kit kit = Kit.knowing(P);
    byte[] whole = Kit.echo(1, "abcdefghijklmnop");
    piece(kit, 1, 5, 2, Kit.slice(whole, 16, 24));
    piece(kit, 2, 5, 0x2000 | from / 8, new byte[to - from]);
    piece(kit, 3, 5, 0x2000, Kit.slice(whole, 0, 16));
    Kit.due("4: bytes from " + from + " to " + to, kit.host.counted(1), due);
  }

  private static void bytesBeyondTheEnd() {
    beyond(16, 24, 1);
    beyond(16, 32, 0);
    beyond(24, 32, 0);
    beyond(32, 40, 0);
    beyond(0, 32, 0);
  }

  /** Bytes up to 24 are there; then an end is told. */
  private static void endBeforeBytes() {
    for (int end = 17; end <= 25; end++) {
      Kit kit = Kit.knowing(P);
      piece(kit, 1, 5, 0x2001, new byte[16]);
      piece(kit, 2, 5, 2, new byte[end - 16]);
      piece(kit, 3, 5, 0x2000, new byte[8]);
      Kit.due("4: an end at " + end, kit.host.counted(1), end < 24 ? 0 : 1);
    }
  }

  private static void contradictionDropsTheFragmentToo() {
    Kit kit = Kit.knowing(P);
    piece(kit, 1, 5, 2, new byte[8]);
    piece(kit, 1, 5, 1, new byte[8]);
    piece(kit, 1, 5, 0x2000, new byte[8]);
    Kit.due("10: the fragment did not begin a new one", kit.host.counted(1), 0);
    for (int id = 6; id < 9; id++) {
      piece(kit, 1, id, 0x2000, new byte[8]);
    }
    piece(kit, 1, 5, 1, new byte[8]);
    Kit.due("4: what came behind it did", kit.host.counted(1), 1);
    piece(kit, 1, 8, 2, new byte[8]);
    piece(kit, 1, 8, 0x2002, new byte[16]);
    piece(kit, 1, 9, 0x2000, new byte[8]);
    piece(kit, 1, 10, 0x2000, new byte[8]);
    piece(kit, 1, 10, 1, new byte[8]);
    Kit.due("4: a datagram that is dropped gives room", kit.host.counted(1), 2);
  }

  private static void lastCarriesNothing() {
    Kit kit = Kit.knowing(P);
    byte[] whole = echo();
    piece(kit, 1, 5, 0x2000, whole);
    Kit.due("10: the end alone, last", piece(kit, 1, 5, 2, new byte[0]), 1);
    piece(kit, 1, 6, 2, new byte[0]);
    Kit.due("10: the end alone, first", piece(kit, 1, 6, 0x2000, whole), 1);
    piece(kit, 1, 7, 2, new byte[0]);
    piece(kit, 1, 7, 0x2000, Kit.slice(whole, 0, 8));
    Kit.due("10: with a gap before it", kit.host.counted(1), 2);
    Kit.due("10: which is filled", piece(kit, 1, 7, 1, Kit.slice(whole, 8, 16)), 1);
  }

  private static void droppedBehind15000() {
    Kit kit = Kit.knowing(P);
    byte[] whole = Kit.echo(1, "abcdefghijklmnop");
    piece(kit, 100, 5, 0x2000, Kit.slice(whole, 0, 8));
    piece(kit, 15099, 5, 0x2001, Kit.slice(whole, 8, 16));
    Kit.due("4: 14999 behind the first", piece(kit, 15099, 5, 2, Kit.slice(whole, 16, 24)), 1);
    piece(kit, 20000, 6, 0x2000, Kit.slice(whole, 0, 8));
    piece(kit, 34999, 6, 0x2001, Kit.slice(whole, 8, 16));
    Kit.due("4: 15000 behind the first", piece(kit, 35000, 6, 2, Kit.slice(whole, 16, 24)), 0);
    Kit.due("4: it was dropped, and this one is new", piece(kit, 49999, 6, 0x2000, Kit.slice(whole, 0, 16)), 1);
  }

  private static void asIfItHadComeWhole() {
    Kit kit = Kit.knowing(P);
    byte[] segment = Kit.tcp(P, new int[] {5000, 80, 99, 0, Peer.SYN, 1000}, Kit.hex("02040200"), new byte[0]);
    kit.arrive(Kit.packet(P, 5, 1, 6, Kit.slice(segment, 8, 24)), 1);
    Kit.due("4: a segment of fragments", kit.arrive(Kit.packet(P, 5, 0x2000, 6, Kit.slice(segment, 0, 8)), 2), 1);
    Kit.due("5: SYN RECEIVED", kit.host.state(0), 1);
    Kit.due("5: its MSS", kit.host.look(0, 10), 512);
    Kit.due("4: it is in the making no more", kit.arrive(Kit.packet(P, 5, 1, 6, Kit.slice(segment, 8, 24)), 3), 0);
    Kit.due("17: one", kit.host.counted(1), 1);
  }

  private static void identificationWraps() {
    Kit kit = Kit.knowing(P);
    byte[] ping = frame(header(8), Kit.echo(1, ""));
    for (int i = 1; i <= 65534; i++) {
      // Without a look at each answer, since there are so many.
      kit.put(ping);
      kit.host.arrive(1);
    }
    Kit.due("4: the 65534th", Kit.two(kit.frame(0), 18), 65534);
    for (int id : new int[] {65535, 0, 1, 2}) {
      kit.arrive(ping, 1);
      Kit.due("4: the next", Kit.two(kit.frame(0), 18), id);
    }
  }

  private static void echoAtLeast8() {
    byte[] message = Kit.hex("0800f7ff00000000");
    for (int n = 0; n < 8; n++) {
      Kit.due("4: " + n + " bytes", Kit.knowing(P).arrive(Kit.packet(P, 1, Kit.slice(message, 0, n)), 1), 0);
    }
    Kit.due("4: 8 bytes", Kit.knowing(P).arrive(Kit.packet(P, 1, message), 1), 1);
  }

  private static void echoTypeAndCode() {
    for (int type = 0; type < 256; type++) {
      Kit.due("4: type " + type, Kit.knowing(P).arrive(Kit.packet(P, 1, typed(type, 0)), 1), type == 8 ? 1 : 0);
    }
    Kit.due("4: code 1", Kit.knowing(P).arrive(Kit.packet(P, 1, typed(8, 1)), 1), 0);
    Kit.due("4: code 255", Kit.knowing(P).arrive(Kit.packet(P, 1, typed(8, 255)), 1), 0);
  }

  private static byte[] typed(int type, int code) {
    byte[] message = new byte[8];
    message[0] = (byte) type;
    message[1] = (byte) code;
    byte[] sum = Kit.two(Kit.sum(message));
    message[2] = sum[0];
    message[3] = sum[1];
    return message;
  }

  private static void echoSum() {
    byte[] message = Kit.echo(1, "abc");
    for (int i = 0; i < message.length; i++) {
      byte[] bad = message.clone();
      bad[i] ^= 4;
      Kit.due("4: byte " + i, Kit.knowing(P).arrive(Kit.packet(P, 1, bad), 1), 0);
    }
    Kit kit = Kit.knowing(P);
    kit.arrive(Kit.packet(P, 1, message), 1);
    byte[] back = Kit.slice(kit.frame(0), 34, 45);
    Kit.due("4: type 0 and the sum of that", Kit.sum(back), 0);
    Kit.due("4: type 0, code 0", Kit.two(back, 0), 0);
    Kit.due("4: the rest is the same", Kit.hex(Kit.slice(back, 4, 11)), Kit.hex(Kit.slice(message, 4, 11)));
  }

  private static void echoNotAbove1480() {
    for (int n = 1479; n <= 1482; n++) {
      Kit kit = Kit.knowing(P);
      byte[] whole = Kit.echo(1, "x".repeat(n - 8));
      piece(kit, 1, 5, 0x2000, Kit.slice(whole, 0, 800));
      Kit.due("4: an echo of " + n, piece(kit, 1, 5, 100, Kit.slice(whole, 800, n)), n <= 1480 ? 1 : 0);
      Kit.due("17: put together", kit.host.counted(1), 1);
      Kit.due("16: nor does it wait", kit.host.waiting(), 0);
    }
  }

  private static void protocols() {
    for (int protocol = 0; protocol < 256; protocol++) {
      Kit kit = Kit.knowing(P);
      int sent = kit.arrive(Kit.packet(P, protocol, echo()), 1);
      Kit.due("4: an echo of protocol " + protocol, sent, protocol == 1 ? 1 : 0);
    }
    byte[] segment = Kit.tcp(P, new int[] {5000, 81, 7, 0, 0, 100}, new byte[0], new byte[0]);
    for (int protocol = 0; protocol < 256; protocol++) {
      Kit kit = Kit.knowing(P);
      int sent = kit.arrive(Kit.packet(P, protocol, segment), 1);
      Kit.due("4: a segment of protocol " + protocol, sent, protocol == 6 ? 1 : 0);
    }
  }
}
