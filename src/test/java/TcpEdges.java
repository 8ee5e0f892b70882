/** Point 5 of the terms: the boundaries of segments, of beginning, and of taking what comes. */
public final class TcpEdges {
  private static final int P = 0x0A000009;
  private static final int FAR = Integer.MIN_VALUE;
  private static final String GET = "GET /a.txt HTTP/1.1\r\nHost: h\r\n\r\n";
  private static final String CLOSE = "GET /a.txt HTTP/1.1\r\nHost: h\r\nConnection: close\r\n\r\n";

  public static void main(String[] args) {
    atLeast20Bytes();
    headerLength();
    sumOfASegment();
    lengthOfASegment();
    resets();
    belongsToAConnection();
    sixteenPlaces();
    withoutConnection();
    beginning();
    firstNumberWraps();
    mss();
    optionsEnd();
    acceptableWithoutLength();
    acceptableByItsLastNumber();
    acceptableAroundTheWindow();
    acceptableWithWindowZero();
    notAcceptable();
    notAcceptableInTimeWait();
    goneByRst();
    goneBySyn();
    noAck();
    acknowledgedInSynReceived();
    acknowledgedBehindMax();
    acknowledgedFarAway();
    windowIsTaken();
    finAcknowledged();
    dataInTheWindow();
    whatIsThereStays();
    finInTheWindow();
    finKeptOnce();
    finInTimeWait();
    dataInOtherStates();
    goneIsGone();
    Kit.finish();
  }

  private static int segment(Kit kit, byte[] segment) {
    return kit.arrive(Kit.packet(P, 6, segment), 1);
  }

  /** A segment to port 81 with its header's length as told, and the sum made right. */
  private static byte[] worded(int words, int size) {
    byte[] segment = new byte[size];
    byte[] whole = Kit.tcp(P, new int[] {5000, 81, 100, 0, 0, 1000}, new byte[0], new byte[Math.max(0, size - 20)]);
    System.arraycopy(whole, 0, segment, 0, size);
    if (size > 17) {
      segment[12] = (byte) (words << 4);
      segment[16] = 0;
      segment[17] = 0;
      byte[] sum = Kit.two(Kit.sum(Kit.join(Kit.four(P), Kit.four(Kit.IP), Kit.two(6), Kit.two(size), segment)));
      segment[16] = sum[0];
      segment[17] = sum[1];
    }
    return segment;
  }

  private static void atLeast20Bytes() {
    for (int size = 0; size < 20; size++) {
      Kit.due("5: " + size + " bytes", segment(Kit.knowing(P), worded(5, size)), 0);
    }
    Kit.due("5: 20 bytes", segment(Kit.knowing(P), worded(5, 20)), 1);
  }

  private static void headerLength() {
    for (int words = 0; words < 16; words++) {
      for (int size = 20; size <= 64; size++) {
        boolean right = words >= 5 && words * 4 <= size;
        Kit kit = Kit.knowing(P);
        Kit.due("5: a header of " + 4 * words + " in " + size, segment(kit, worded(words, size)), right ? 1 : 0);
        if (right) {
          Kit.due("5: the length of its data", Kit.four(kit.frame(0), 42), 100 + size - 4 * words);
        }
      }
    }
  }

  private static void sumOfASegment() {
    byte[] whole = Kit.tcp(P, new int[] {5000, 81, 100, 0, 0, 1000}, Kit.hex("01010101"), Kit.latin("abc"));
    Kit.due("5: as it is", segment(Kit.knowing(P), whole), 1);
    for (int i = 0; i < whole.length; i++) {
      byte[] bad = whole.clone();
      bad[i] ^= 1;
      Kit.due("5: byte " + i, segment(Kit.knowing(P), bad), 0);
    }
    Kit.due("5: the sender's number is part of it", Kit.knowing(P).arrive(Kit.packet(P + 1, 6, whole), 1), 0);
    byte[] longer = Kit.join(whole, new byte[1]);
    Kit.due("5: the length is part of it", segment(Kit.knowing(P), longer), 0);
  }

  private static int ackOfReset(int flags, int seq, int data) {
    Kit kit = Kit.knowing(P);
    segment(kit, Kit.tcp(P, new int[] {5000, 81, seq, 55, flags, 1000}, new byte[0], new byte[data]));
    return Kit.four(kit.frame(0), 42);
  }

  private static void lengthOfASegment() {
    Kit.due("5: nothing", ackOfReset(0, 100, 0), 100);
    Kit.due("5: a byte", ackOfReset(0, 100, 1), 101);
    Kit.due("5: SYN", ackOfReset(Peer.SYN, 100, 0), 101);
    Kit.due("5: FIN", ackOfReset(Peer.FIN, 100, 0), 101);
    Kit.due("5: all of them", ackOfReset(Peer.SYN | Peer.FIN | Peer.PSH, 100, 1000), 1102);
    Kit.due("5: the greatest", ackOfReset(Peer.SYN | Peer.FIN, 100, 1460), 1562);
    Kit.due("5: up to the last number", ackOfReset(Peer.FIN, -2, 0), -1);
    Kit.due("5: it wraps", ackOfReset(Peer.FIN, -1, 0), 0);
    Kit.due("5: and goes on", ackOfReset(0, -1, 3), 2);
  }

  private static String reset(int port, int flags, int seq, int ack, int data) {
    Kit kit = Kit.knowing(P);
    segment(kit, Kit.tcp(P, new int[] {5000, port, seq, ack, flags, 1000}, new byte[0], new byte[data]));
    return Kit.hex(Kit.slice(kit.frame(0), 34, 50)) + Kit.hex(Kit.slice(kit.frame(0), 52, 54));
  }

  private static void resets() {
    Kit.due("5: without ACK", reset(81, 0, 5, 6, 2), "0051" + "1388" + "00000000" + "00000007" + "5014" + "0000" + "0000");
    Kit.due("5: with ACK", reset(81, Peer.ACK, 5, 6, 2), "0051" + "1388" + "00000006" + "00000000" + "5004" + "0000" + "0000");
    Kit.due("5: port 0", reset(0, 0, 5, 6, 2), "0000" + "1388" + "00000000" + "00000007" + "5014" + "0000" + "0000");
    Kit.due("5: port 65535", reset(65535, Peer.ACK, 5, -1, 2), "ffff" + "1388" + "ffffffff" + "00000000" + "5004" + "0000" + "0000");
    Kit.due("5: port 79", reset(79, Peer.SYN, 5, 6, 0), "004f" + "1388" + "00000000" + "00000006" + "5014" + "0000" + "0000");
    Kit.due("5: port 80", reset(80, Peer.ACK, 5, 6, 0), "0050" + "1388" + "00000006" + "00000000" + "5004" + "0000" + "0000");
  }

  private static void belongsToAConnection() {
    Kit kit = Kit.knowing(P);
    Peer peer = new Peer(kit, P, 5000).open(1);
    kit.arrive(Kit.tell(P + 1), 1);
    Kit.due("5: another port", new Peer(kit, P, 5001).raw(2, Peer.ACK, peer.seq, peer.ack, ""), 1);
    Kit.due("5: another number", new Peer(kit, P + 1, 5000).raw(2, Peer.ACK, peer.seq, peer.ack, ""), 1);
    int[] fields = {5000, 81, peer.seq, peer.ack, Peer.ACK, 1000};
    Kit.due("5: another port of ours", segment(Kit.knowing(P), Kit.tcp(P, fields, new byte[0], new byte[0])), 1);
    Kit.due("17: all reset", kit.host.counted(2), 2);
    Kit.due("5: its own", peer.raw(2, Peer.ACK, peer.seq, peer.ack, ""), 0);
  }

  private static void sixteenPlaces() {
    Kit kit = Kit.knowing(P);
    for (int i = 0; i < 16; i++) {
      Kit.due("5: place " + i, new Peer(kit, P, 5000 + i).syn(1, 1000, new byte[0]), 1);
      Kit.due("5: the least that is free", kit.host.look(i, 1), 5000 + i);
    }
    String before = kit.seen();
    kit.put(Kit.packet(P, 6, Kit.tcp(P, new int[] {6000, 80, 1, 0, Peer.SYN, 1}, new byte[0], new byte[0])));
    Kit.due("5: no place for a seventeenth", kit.host.arrive(1), 0);
    Kit.due("5: it is dropped, and only counted", kit.seen(), before.replace("counted 17", "counted 18"));
    for (int gone : new int[] {15, 0, 7}) {
      new Peer(kit, P, (int) kit.host.look(gone, 1)).raw(2, Peer.RST, 1001, 0, "");
      Kit.due("5: gone", kit.host.state(gone), 0);
      Kit.due("5: now there is one", new Peer(kit, P, 6000 + gone).syn(2, 1, new byte[0]), 1);
      Kit.due("5: at that place", kit.host.look(gone, 1), 6000 + gone);
    }
    new Peer(kit, P, 5009).raw(3, Peer.RST, 1001, 0, "");
    new Peer(kit, P, 5004).raw(3, Peer.RST, 1001, 0, "");
    new Peer(kit, P, 7000).syn(3, 1, new byte[0]);
    Kit.due("5: of two the least", kit.host.look(4, 1), 7000);
    Kit.due("17: begun", kit.host.counted(5), 20);
    Kit.due("5: the 20th since boot", kit.host.look(4, 2), 20 * 64000 + 750);
  }

  /** Every combination of flags, to our port and to another. */
  private static void withoutConnection() {
    for (int flags = 0; flags < 64; flags++) {
      for (int port = 79; port <= 81; port++) {
        Kit kit = Kit.knowing(P);
        int sent = segment(kit, Kit.tcp(P, new int[] {5000, port, 9, 8, flags, 1000}, new byte[0], new byte[0]));
        boolean rst = (flags & Peer.RST) != 0;
        boolean reset = !rst && (port != 80 || (flags & Peer.ACK) != 0);
        boolean begins = !rst && !reset && (flags & (Peer.SYN | Peer.FIN)) == Peer.SYN;
        Kit.due("5: flags " + flags + " to " + port, sent, reset || begins ? 1 : 0);
        Kit.due("17: resets", kit.host.counted(2), reset ? 1 : 0);
        Kit.due("13: begun", kit.host.state(0), begins ? 1 : 0);
      }
    }
  }

  private static void beginning() {
    Kit kit = Kit.knowing(P);
    Peer peer = new Peer(kit, P, 5000);
    peer.window = 0;
    peer.syn(1, -1, new byte[0]);
    Kit.due("5: NEXT wraps to 0", kit.host.look(0, 5), 0);
    Kit.due("5: a window of 0", kit.host.look(0, 6), 0);
    Kit.due("5: SYN ACK acknowledges 0", peer.ackOf(0), 0);
    Kit.due("5: 24 bytes of header", kit.host.at(0, 46), 0x60);
    Kit.due("5: the option", Kit.hex(Kit.slice(kit.frame(0), 54, 58)), "020405b4");
    Kit.due("5: total length", Kit.two(kit.frame(0), 16), 44);
    int[] fields = {5001, 80, 7, 0, Peer.SYN, 1000};
    kit.arrive(Kit.packet(P, 6, Kit.tcp(P, fields, new byte[0], Kit.latin(GET))), 2);
    Kit.due("5: data with the SYN are not looked at", kit.host.look(1, 5), 8);
    Kit.due("7: nor held", kit.host.look(1, 11), 0);
  }

  /** Goes on to a time in steps that are allowed. */
  private static void goTo(WebHost host, int time) {
    while (time - host.now() > 600000) {
      host.pass(host.now() + 600000);
    }
    host.pass(time);
  }

  private static void firstNumberWraps() {
    Kit kit = Kit.booted();
    goTo(kit.host, 17179613);
    Peer peer = new Peer(kit, P, 5000).open(17179613);
    Kit.due("5: ISS is 46 before 0", peer.look(2), 4294967251L);
    Kit.due("8: answered", peer.send(17179614, GET), 1);
    int n = peer.data(0).length();
    Kit.due("14: UNA", peer.look(2), 4294967251L);
    Kit.due("14: AT is behind 0", peer.look(3), n - 45);
    Kit.due("14: MAX too", peer.look(4), n - 45);
    Kit.due("5: one behind MAX", peer.raw(17179615, Peer.ACK, peer.seq, peer.ack + n + 1, ""), 1);
    Kit.due("14: not taken", peer.look(2), 4294967251L);
    for (int i = 0; i < 3; i++) {
      peer.ackMore(17179616, 0);
    }
    Kit.due("6: UNA is before MAX: duplicates", peer.look(14), 3);
    Kit.due("17: the first again", kit.host.counted(3), 1);
    Kit.due("6: a part, up to the last number", peer.ackMore(17179617, 44), 0);
    Kit.due("14: UNA", peer.look(2), 4294967295L);
    Kit.due("6: the timer: from there", kit.host.pass(17180617), 1);
    Kit.due("6: sent again", peer.seqOf(0), -1);
    Kit.due("6: NEW over 0", peer.ackMore(17180618, n - 44), 0);
    Kit.due("14: UNA", peer.look(2), n - 45);
    Kit.due("17: bytes", kit.host.counted(7), n + 1);

    goTo(kit.host, 17180000);
    kit = Kit.booted();
    goTo(kit.host, 17179614);
    kit.arrive(Kit.tell(P), 17179614);
    new Peer(kit, P, 5000).syn(17179614, 1, new byte[0]);
    Kit.due("5: ISS wraps", kit.host.look(0, 2), 204);
  }

  private static void mss() {
    int[] told = {0, 1, 63, 64, 65, 1095, 1096, 1459, 1460, 1461, 32768, 65535};
    for (int mss : told) {
      Kit kit = Kit.knowing(P);
      new Peer(kit, P, 5000).syn(1, 100, Kit.join(Kit.hex("0204"), Kit.two(mss)));
      int due = mss < 64 ? 64 : Math.min(mss, 1460);
      Kit.due("5: MSS " + mss, kit.host.look(0, 10), due);
      Kit.due("5: CWND of " + mss, kit.host.look(0, 7), due <= 1095 ? 4 * due : 3 * due);
      Kit.due("5: SSTHRESH", kit.host.look(0, 8), 65535);
      Kit.due("5: RTO", kit.host.look(0, 9), 1000);
    }
  }

  private static void option(String what, String hex, int mss) {
    Kit kit = Kit.knowing(P);
    new Peer(kit, P, 5000).syn(1, 100, Kit.hex(hex));
    Kit.due("5: " + what, kit.host.look(0, 10), mss);
  }

  private static void optionsEnd() {
    option("none", "", 536);
    option("the first of two", "02040100" + "02040200", 256);
    option("behind kind 1 alone", "01010101" + "02040100", 256);
    option("behind an end", "00010101" + "02040100", 536);
    option("an end has no length", "0004aabb" + "02040100", 536);
    option("kind 1 has no length", "01020401" + "00000000", 256);
    option("another with length 2", "08020101" + "02040100", 256);
    option("another with length 3", "0803aa01" + "02040100", 256);
    option("another with length 1", "08010101" + "02040100", 536);
    option("another with length 0", "08000101" + "02040100", 536);
    option("kind 2 with length 3", "0203aa01" + "02040100", 256);
    option("kind 2 with length 5", "0205010001" + "010101", 536);
    option("kind 2 with length 2", "02020204" + "01000000", 256);
    option("kind 2 with length 1", "02010204" + "01000000", 536);
    option("another that just fits", "0808010101010101", 536);
    option("one that just fits", "0101010102040100", 256);
    option("one that does not", "0101010101020401", 536);
    option("another with a length one too great", "02040100" + "08050101", 256);
    option("another before with a length one too great", "08090101" + "02040100", 536);
    option("another that leaves just room", "08040101" + "02040100", 256);
    option("a kind at the end, without length", "0101010101010102", 536);
    option("the most of options", "01".repeat(36) + "02040100", 256);
  }

  /** Whether a segment is acceptable: one with RST makes the connection gone then, and only then. */
  private static boolean accepted(int held, int offset, int data, int flags) {
    Peer peer = new Peer(Kit.knowing(P), P, 5000).open(1);
    peer.window = 0;
    peer.send(1, GET);
    for (int left = held; left > 0; left -= 1000) {
      peer.send(1, "x".repeat(Math.min(left, 1000)));
    }
    Kit.due("7: HELD", peer.look(11), held);
    int sent = peer.raw(2, Peer.RST | flags, peer.seq + offset, peer.ack, "y".repeat(data));
    Kit.due("5: RST is never answered", sent, 0);
    return peer.state() == 0;
  }

  private static void acceptableWithoutLength() {
    for (int held : new int[] {0, 96, 4095}) {
      int w = 4096 - held;
      Kit.due("5: one before NEXT, W " + w, accepted(held, -1, 0, 0), false);
      Kit.due("5: NEXT, W " + w, accepted(held, 0, 0, 0), true);
      Kit.due("5: the window's last, W " + w, accepted(held, w - 1, 0, 0), true);
      Kit.due("5: NEXT + W, W " + w, accepted(held, w, 0, 0), false);
      Kit.due("5: NEXT + 2147483647, W " + w, accepted(held, Integer.MAX_VALUE, 0, 0), false);
      Kit.due("5: NEXT + 2147483648, W " + w, accepted(held, FAR, 0, 0), false);
    }
  }

  private static void acceptableByItsLastNumber() {
    Kit.due("5: one before NEXT, a byte", accepted(0, -1, 1, 0), false);
    Kit.due("5: one before NEXT, two bytes", accepted(0, -1, 2, 0), true);
    Kit.due("5: ten before NEXT, ten bytes", accepted(0, -10, 10, 0), false);
    Kit.due("5: ten before NEXT, eleven bytes", accepted(0, -10, 11, 0), true);
    Kit.due("5: one before NEXT, FIN", accepted(0, -1, 0, Peer.FIN), false);
    Kit.due("5: one before NEXT, a byte and FIN", accepted(0, -1, 1, Peer.FIN), true);
    Kit.due("5: one before NEXT, SYN and FIN", accepted(0, -1, 0, Peer.SYN | Peer.FIN), true);
    Kit.due("5: the window's last, two bytes", accepted(0, 4095, 2, 0), true);
    Kit.due("5: NEXT + W, a byte", accepted(0, 4096, 1, 0), false);
  }

  private static void acceptableAroundTheWindow() {
    Kit.due("5: W 1, from one before on, two bytes", accepted(4095, -1, 2, 0), true);
    Kit.due("5: W 1, from one before on, three bytes: both ends are outside", accepted(4095, -1, 3, 0), false);
    Kit.due("5: W 1, from NEXT on, three bytes", accepted(4095, 0, 3, 0), true);
    Kit.due("5: W 100, from 50 before on, up to its last", accepted(3996, -50, 150, 0), true);
    Kit.due("5: W 100, from 50 before on, one more", accepted(3996, -50, 151, 0), false);
  }

  private static void acceptableWithWindowZero() {
    Kit.due("5: NEXT", accepted(4096, 0, 0, 0), true);
    Kit.due("5: one before", accepted(4096, -1, 0, 0), false);
    Kit.due("5: one behind", accepted(4096, 1, 0, 0), false);
    Kit.due("5: NEXT, a byte", accepted(4096, 0, 1, 0), false);
    Kit.due("5: NEXT, FIN", accepted(4096, 0, 0, Peer.FIN), false);
    Kit.due("5: one before, two bytes", accepted(4096, -1, 2, 0), false);
  }

  /** A peer whose connection is in a state, 1 to 8. */
  private static Peer in(int state) {
    Peer peer = new Peer(Kit.knowing(P), P, 5000);
    if (state == 1) {
      peer.syn(1, 1000, new byte[0]);
      return peer;
    }
    peer.open(1);
    if (state == 7 || state == 8) {
      peer.window = state == 7 ? 0 : 65535;
      peer.fin(2);
    } else if (state > 2) {
      peer.send(2, CLOSE);
      int n = peer.data(0).length();
      if (state == 4 || state == 6) {
        peer.ackMore(3, n + 1);
      }
      if (state == 5 || state == 6) {
        peer.fin(4);
      }
    }
    Kit.due("13: the state", peer.state(), state);
    return peer;
  }

  private static void notAcceptable() {
    for (int state = 1; state <= 8; state++) {
      Peer peer = in(state);
      long at = peer.look(3);
      String before = numbers(peer);
      Kit.due("5: not acceptable in " + state, peer.raw(9, Peer.ACK, peer.seq - 1, peer.ack, ""), 1);
      Kit.due("5: an ACK", peer.flags(0), 16);
      Kit.due("5: AT", peer.seqOf(0) & 0xFFFFFFFFL, at);
      Kit.due("5: NEXT", peer.ackOf(0), peer.seq);
      Kit.due("10: W", peer.windowOf(0), 4096);
      Kit.due("5: without ACK too", peer.raw(9, 0, peer.seq - 2, 0, ""), 1);
      Kit.due("5: with SYN too", peer.raw(9, Peer.SYN, peer.seq - 2, 0, ""), 1);
      Kit.due("5: with RST not", peer.raw(9, Peer.RST, peer.seq - 1, 0, ""), 0);
      Kit.due("5: with RST and ACK not", peer.raw(9, Peer.RST | Peer.ACK, peer.seq - 1, peer.ack, ""), 0);
      Kit.due("5: dropped", numbers(peer), before);
    }
    // What an acceptable segment would have done is not done.
    Peer peer = in(2);
    peer.send(3, GET);
    int n = peer.data(0).length();
    peer.window = 77;
    peer.raw(4, Peer.ACK, peer.seq - 1, peer.ack + n, "");
    Kit.due("5: no acknowledgement is taken", peer.look(2), peer.ack);
    Kit.due("5: no window is taken", peer.look(6), 65535);
  }

  private static String numbers(Peer peer) {
    StringBuilder text = new StringBuilder("" + peer.state());
    for (int what = 0; what < 15; what++) {
      text.append(' ').append(peer.look(what));
    }
    return text.toString();
  }

  /** How long TIME WAIT lasts from time 4 on, if a segment comes at 1000. */
  private static void timeWait(String what, int flags, int offset, boolean anew) {
    Peer peer = in(6);
    peer.raw(1000, flags, peer.seq + offset, peer.ack, "");
    peer.host.pass(60003);
    Kit.due("5: before its end, " + what, peer.host.state(0), 6);
    peer.host.pass(60004);
    Kit.due("5: at its end, " + what, peer.host.state(0), anew ? 6 : 0);
    peer.host.pass(60999);
    Kit.due("5: before its new end, " + what, peer.host.state(0), anew ? 6 : 0);
    peer.host.pass(61000);
    Kit.due("5: at its new end, " + what, peer.host.state(0), 0);
  }

  private static void notAcceptableInTimeWait() {
    timeWait("FIN ACK", Peer.FIN | Peer.ACK, -1, true);
    timeWait("FIN alone", Peer.FIN, -1, true);
    timeWait("FIN RST", Peer.FIN | Peer.RST, -1, false);
    timeWait("FIN ACK RST", Peer.FIN | Peer.RST | Peer.ACK, -1, false);
    timeWait("ACK", Peer.ACK, -1, false);
    timeWait("SYN", Peer.SYN, -2, false);
  }

  private static void finInTimeWait() {
    timeWait("an acceptable FIN ACK", Peer.FIN | Peer.ACK, 0, true);
    timeWait("one at the window's end", Peer.FIN | Peer.ACK, 4095, true);
    timeWait("one without ACK is dropped", Peer.FIN, 0, false);
    timeWait("an acceptable ACK", Peer.ACK, 0, false);
  }

  private static void goneByRst() {
    for (int state = 1; state <= 8; state++) {
      for (int flags : new int[] {Peer.RST, Peer.RST | Peer.ACK, Peer.RST | Peer.SYN, Peer.RST | Peer.FIN}) {
        Peer peer = in(state);
        Kit.due("5: RST in " + state, peer.raw(9, flags, peer.seq, peer.ack, ""), 0);
        Kit.due("5: gone", peer.host.state(0), 0);
        Kit.due("17: no reset", peer.host.counted(2), 0);
        Kit.due("6: all timers are off", peer.host.pass(600000), 0);
      }
    }
  }

  private static void goneBySyn() {
    for (int state = 1; state <= 8; state++) {
      Peer peer = in(state);
      Kit.due("5: SYN in " + state, peer.raw(9, Peer.SYN, peer.seq, 0, ""), 1);
      Kit.due("5: a reset", peer.flags(0), 20);
      Kit.due("5: behind it", peer.ackOf(0), peer.seq + 1);
      Kit.due("5: gone", peer.host.state(0), 0);
      peer = in(state);
      Kit.due("5: SYN ACK in " + state, peer.raw(9, Peer.SYN | Peer.ACK, peer.seq, 1234, ""), 1);
      Kit.due("5: a reset", peer.flags(0), 4);
      Kit.due("5: at its acknowledgement", peer.seqOf(0), 1234);
      Kit.due("5: window 0", peer.windowOf(0), 0);
      Kit.due("5: gone", peer.host.state(0), 0);
      Kit.due("17: a reset", peer.host.counted(2), 1);
    }
  }

  private static void noAck() {
    for (int state = 1; state <= 8; state++) {
      Peer peer = in(state);
      String before = numbers(peer);
      Kit.due("5: no ACK in " + state, peer.raw(9, 0, peer.seq, peer.ack, "abc"), 0);
      Kit.due("5: with FIN", peer.raw(9, Peer.FIN | Peer.PSH, peer.seq, peer.ack, ""), 0);
      Kit.due("5: dropped", numbers(peer), before);
    }
  }

  private static void acknowledgedInSynReceived() {
    for (int offset : new int[] {-1, 1, FAR, Integer.MAX_VALUE}) {
      Peer peer = in(1);
      Kit.due("5: ISS + 1 and " + offset, peer.raw(2, Peer.ACK, peer.seq, peer.ack + offset, GET), 1);
      Kit.due("5: a reset", peer.flags(0), 4);
      Kit.due("5: at it", peer.seqOf(0), peer.ack + offset);
      Kit.due("5: still there", peer.host.state(0), 1);
      Kit.due("5: dropped", peer.look(5), peer.seq);
      Kit.due("17: not NEW", peer.host.counted(6), 0);
    }
    Peer peer = in(1);
    peer.window = 4321;
    Kit.due("5: ISS + 1", peer.raw(2, Peer.ACK, peer.seq, peer.ack, ""), 0);
    Kit.due("5: ESTABLISHED", peer.host.state(0), 2);
    Kit.due("5: UNA", peer.look(2), peer.ack);
    Kit.due("5: the window", peer.look(6), 4321);
    Kit.due("10: NEW", peer.host.counted(6), 1);
    Kit.due("10: one byte", peer.host.counted(7), 1);
    Kit.due("10: CWND stays", peer.look(7), 2144);
    Kit.due("6: no SYN ACK any more", peer.host.pass(20000), 0);
  }

  private static void acknowledgedBehindMax() {
    Peer peer = in(2);
    peer.send(3, GET);
    int n = peer.data(0).length();
    peer.window = 99;
    Kit.due("5: MAX + 1", peer.raw(4, Peer.ACK, peer.seq, peer.ack + n + 1, "abc"), 1);
    Kit.due("5: an ACK at once", peer.flags(0), 16);
    Kit.due("5: AT", peer.seqOf(0), peer.ack + n);
    Kit.due("5: dropped: no data", peer.look(5), peer.seq);
    Kit.due("5: nor the acknowledgement", peer.look(2), peer.ack);
    Kit.due("5: nor the window", peer.look(6), 65535);
    Kit.due("5: with FIN", peer.raw(4, Peer.ACK | Peer.FIN, peer.seq, peer.ack + n + 1, ""), 1);
    Kit.due("5: ESTABLISHED still", peer.state(), 2);
    Kit.due("5: MAX", peer.raw(5, Peer.ACK, peer.seq, peer.ack + n, ""), 0);
    Kit.due("5: is NEW", peer.look(2), peer.ack + n);
    Kit.due("5: and the window is taken", peer.look(6), 99);
    peer = in(2);
    peer.send(3, GET);
    Kit.due("5: UNA + 1", peer.raw(4, Peer.ACK, peer.seq, peer.ack + 1, ""), 0);
    Kit.due("5: is NEW", peer.look(2), peer.ack + 1);
    Kit.due("17: one byte", peer.host.counted(7), 2);
    Kit.due("5: UNA - 1 is not", peer.raw(5, Peer.ACK, peer.seq, peer.ack, ""), 0);
    Kit.due("17: two NEW", peer.host.counted(6), 2);
    Kit.due("14: nor a DUPLICATE", peer.look(14), 0);
  }

  /** Of two numbers that are 2147483648 apart each is before the other one. */
  private static void acknowledgedFarAway() {
    Peer peer = in(2);
    peer.window = 99;
    Kit.due("5: UNA + 2147483648 is before UNA, so data are taken", peer.raw(3, Peer.ACK, peer.seq, peer.ack + FAR, "abc"), 1);
    Kit.due("5: NEXT", peer.look(5), peer.seq + 3);
    Kit.due("5: but not the window", peer.look(6), 65535);
    Kit.due("5: UNA", peer.look(2), peer.ack);
    Kit.due("5: UNA + 2147483647 is behind MAX", peer.raw(3, Peer.ACK, peer.seq + 3, peer.ack + Integer.MAX_VALUE, "abc"), 1);
    Kit.due("5: so it is dropped", peer.look(5), peer.seq + 3);
    Kit.due("5: UNA - 2147483647 is before UNA", peer.raw(3, Peer.ACK, peer.seq + 3, peer.ack - Integer.MAX_VALUE, "abc"), 1);
    Kit.due("5: so data are taken", peer.look(5), peer.seq + 6);
  }

  private static void windowIsTaken() {
    Peer peer = in(2);
    peer.window = 500;
    peer.raw(3, Peer.ACK, peer.seq, peer.ack, "");
    Kit.due("5: WL1 is its number", peer.look(6), 500);
    peer.window = 501;
    peer.raw(4, Peer.ACK, peer.seq + 1, peer.ack, "");
    Kit.due("5: WL1 is one before its number", peer.look(6), 501);
    peer.window = 502;
    peer.raw(5, Peer.ACK, peer.seq, peer.ack, "");
    Kit.due("5: WL1 is one behind its number", peer.look(6), 501);
    peer.raw(6, Peer.ACK, peer.seq + 1, peer.ack, "");
    Kit.due("5: WL1 is that again", peer.look(6), 502);
    peer.window = 503;
    peer.raw(7, Peer.ACK, peer.seq + 4095, peer.ack, "");
    Kit.due("5: WL1 is the window's last", peer.look(6), 503);
    peer.window = 504;
    peer.raw(8, Peer.ACK, peer.seq + 4094, peer.ack, "");
    Kit.due("5: which is behind all others", peer.look(6), 503);
    peer = in(2);
    peer.window = 0;
    peer.raw(3, Peer.ACK, peer.seq, peer.ack - 1, "");
    Kit.due("5: an acknowledgement before UNA", peer.look(6), 65535);
    peer.raw(4, Peer.ACK, peer.seq, peer.ack, "");
    Kit.due("5: UNA", peer.look(6), 0);
    // A number that wraps: WL1 is before 0.
    peer = new Peer(Kit.knowing(P), P, 5000);
    peer.syn(1, -3, new byte[0]);
    peer.raw(2, Peer.ACK, -2, peer.ack, "");
    peer.window = 600;
    peer.raw(3, Peer.ACK, 0, peer.ack, "");
    Kit.due("5: WL1 is before 0", peer.look(6), 600);
    peer.window = 601;
    peer.raw(4, Peer.ACK, -1, peer.ack, "");
    Kit.due("5: 0 is not before -1", peer.look(6), 600);
  }

  private static void finAcknowledged() {
    Peer peer = in(3);
    int n = peer.data(0).length();
    peer.ackMore(5, n);
    Kit.due("5: all but the FIN", peer.state(), 3);
    peer.ackMore(6, 1);
    Kit.due("5: FIN WAIT 2", peer.state(), 4);
    peer = in(5);
    n = peer.data(1).length();
    peer.ackMore(5, n);
    Kit.due("5: all but the FIN", peer.state(), 5);
    peer.ackMore(6, 1);
    Kit.due("5: TIME WAIT", peer.state(), 6);
    peer = in(8);
    peer.ackMore(5, 0);
    Kit.due("5: not the FIN", peer.state(), 8);
    peer.ackMore(6, 1);
    Kit.due("5: gone", peer.host.state(0), 0);
  }

  /** HELD are so many; then more bytes come than the window has room for. */
  private static void dataInTheWindow() {
    for (int w : new int[] {1, 2, 100}) {
      for (int n = w - 1; n <= w + 2; n++) {
        Peer peer = in(2);
        peer.window = 0;
        peer.send(3, GET);
        for (int left = 4096 - w; left > 0; left -= 1000) {
          peer.send(3, "x".repeat(Math.min(left, 1000)));
        }
        int next = peer.seq;
        peer.raw(4, Peer.ACK, next, peer.ack, "y".repeat(n));
        Kit.due("5: " + n + " bytes, W " + w, peer.look(5), next + Math.min(n, w));
        Kit.due("7: HELD", peer.look(11), 4096 - w + Math.min(n, w));
        Kit.due("7: told", peer.windowOf(0), w - Math.min(n, w));
      }
    }
    Peer peer = in(2);
    peer.window = 0;
    peer.send(3, GET);
    int next = peer.seq;
    peer.raw(4, Peer.ACK, next + 4095, peer.ack, "yz");
    for (int from = 0; from < 4095; from += 1365) {
      peer.raw(5, Peer.ACK, next + from, peer.ack, "x".repeat(1365));
    }
    Kit.due("5: the window's last was kept, the one behind not", peer.look(5), next + 4096);
  }

  /** Bytes that came once stay, be they in order or ahead; seen by the file that is asked for. */
  private static void whatIsThereStays() {
    Peer peer = in(2);
    int next = peer.seq;
    peer.raw(3, Peer.ACK, next, peer.ack, GET.substring(0, 6));
    peer.raw(4, Peer.ACK, next + 5, peer.ack, "#" + GET.substring(6, 8));
    Kit.due("5: from one before NEXT on", peer.look(5), next + 8);
    peer.raw(5, Peer.ACK, next + 9, peer.ack, GET.substring(9, 12));
    peer.raw(6, Peer.ACK, next + 9, peer.ack, "#");
    peer.raw(7, Peer.ACK, next + 11, peer.ack, "##");
    Kit.due("5: a gap", peer.look(5), next + 8);
    peer.raw(8, Peer.ACK, next + 8, peer.ack, GET.substring(8, 9) + "###");
    Kit.due("5: and over all that is there", peer.look(5), next + 13);
    peer.raw(9, Peer.ACK, next + 13, peer.ack, GET.substring(13));
    // Byte 12 came first as the second # of "##", so the version is H#TP/1.1.
    Kit.due("5: the first to come counts", peer.data(0).substring(9, 12), "400");

    peer = in(2);
    next = peer.seq;
    peer.raw(3, Peer.ACK, next, peer.ack, GET.substring(0, 6));
    peer.raw(4, Peer.ACK, next + 5, peer.ack, "#" + GET.substring(6, 8));
    peer.raw(5, Peer.ACK, next + 9, peer.ack, GET.substring(9, 12));
    peer.raw(6, Peer.ACK, next + 9, peer.ack, "#");
    peer.raw(7, Peer.ACK, next + 8, peer.ack, GET.substring(8, 9) + "###" + GET.substring(12));
    Kit.due("5: all as it came first", peer.data(0).substring(9, 12), "200");
  }

  private static void finInTheWindow() {
    Peer peer = in(2);
    int next = peer.seq;
    Kit.due("5: a FIN at the window's last number", peer.raw(3, Peer.ACK | Peer.FIN, next + 4095, peer.ack, ""), 1);
    Kit.due("5: out of order it owes an acknowledgement", peer.flags(0), 16);
    Kit.due("5: of NEXT", peer.ackOf(0), next);
    for (int from = 0; from < 4095; from += 1365) {
      Kit.due("5: ESTABLISHED still", peer.state(), 2);
      peer.raw(4, Peer.ACK, next + from, peer.ack, "x".repeat(1365));
    }
    Kit.due("5: all data are there then", peer.look(5), next + 4096);
    Kit.due("13: CLOSE WAIT, and closing down", peer.state(), 8);
    Kit.due("7: HELD without the FIN", peer.look(11), 4095);
    Kit.due("7: W", peer.windowOf(0), 1);

    peer = in(2);
    next = peer.seq;
    peer.raw(3, Peer.ACK | Peer.FIN, next + 4095, peer.ack, "x");
    for (int from = 0; from < 4095; from += 1365) {
      peer.raw(4, Peer.ACK, next + from, peer.ack, "x".repeat(1365));
    }
    Kit.due("10: one at NEXT + W is not in the window", peer.look(5), next + 4096);
    Kit.due("13: so 431 and our own FIN", peer.state(), 3);

    // By NEXT and W as they were before the segment's data: W is 10, and the FIN's number NEXT + 10.
    for (int n = 9; n <= 10; n++) {
      peer = in(2);
      peer.window = 0;
      peer.send(3, GET);
      for (int left = 4086; left > 0; left -= 1362) {
        peer.send(3, "x".repeat(1362));
      }
      peer.raw(4, Peer.ACK | Peer.FIN, peer.seq, peer.ack, "y".repeat(n));
      Kit.due("10: FIN at NEXT + " + n + ", W 10", peer.state(), n == 9 ? 7 : 2);
      Kit.due("10: NEXT", peer.look(5), peer.seq + 10);
    }
  }

  private static void finKeptOnce() {
    Peer peer = in(2);
    int next = peer.seq;
    peer.raw(3, Peer.ACK | Peer.FIN, next + GET.length(), peer.ack, "");
    Kit.due("10: another one is not kept, but owes", peer.raw(4, Peer.ACK | Peer.FIN, next + 5, peer.ack, ""), 1);
    peer.raw(5, Peer.ACK, next, peer.ack, GET.substring(0, 5));
    Kit.due("10: so it does not count", peer.look(5), next + 5);
    Kit.due("13: ESTABLISHED", peer.state(), 2);
    peer.raw(6, Peer.ACK, next + 5, peer.ack, GET.substring(5));
    Kit.due("10: the first one does", peer.look(5), next + GET.length() + 1);
    Kit.due("13: CLOSE WAIT", peer.state(), 7);
    for (int state : new int[] {3, 4}) {
      peer = in(state);
      peer.raw(9, Peer.ACK | Peer.FIN, peer.seq + 1, peer.ack, "");
      Kit.due("5: out of order in " + state, peer.state(), state);
      Kit.due("5: then the byte", peer.raw(9, Peer.ACK, peer.seq, peer.ack, "x"), 1);
      Kit.due("5: " + state + " becomes", peer.state(), state == 3 ? 5 : 6);
      Kit.due("5: both are acknowledged", peer.ackOf(0), peer.seq + 2);
    }
  }

  private static void dataInOtherStates() {
    for (int state : new int[] {5, 6, 7, 8}) {
      Peer peer = in(state);
      Kit.due("10: data owe nothing in " + state, peer.raw(9, Peer.ACK, peer.seq, peer.ack, "abc"), 0);
      Kit.due("5: nor are they taken", peer.look(5), peer.seq);
      Kit.due("10: nor does a FIN", peer.raw(9, Peer.ACK | Peer.FIN, peer.seq, peer.ack, ""), 0);
      Kit.due("13: the state", peer.state(), state);
    }
    for (int state : new int[] {2, 3, 4}) {
      Peer peer = in(state);
      Kit.due("5: data owe an acknowledgement in " + state, peer.raw(9, Peer.ACK, peer.seq, peer.ack, "abc"), 1);
      Kit.due("5: and are taken", peer.look(5), peer.seq + 3);
      Kit.due("5: what is ahead owes one too", peer.raw(9, Peer.ACK, peer.seq + 9, peer.ack, "x"), 1);
      Kit.due("5: nothing owes nothing", peer.raw(9, Peer.ACK, peer.seq + 3, peer.ack, ""), 0);
    }
  }

  private static void goneIsGone() {
    Peer peer = in(8);
    Kit.due("10: the FIN acknowledged, with data and FIN", peer.raw(9, Peer.ACK | Peer.FIN, peer.seq, peer.ack + 1, "abc"), 0);
    Kit.due("13: gone", peer.host.state(0), 0);
    Kit.due("17: NEW all the same", peer.host.counted(6), 2);
  }
}
