/** Promises 13 and 14 and the terms of TCP: beginning, accepting, ordering, ending. */
public final class TcpTest {
  private static final int P = 0x0A000009;
  private static final String CLOSE = "GET /a.txt HTTP/1.1\r\nHost: h\r\nConnection: close\r\n\r\n";

  public static void main(String[] args) {
    begins();
    options();
    withoutConnection();
    faulty();
    places();
    synReceived();
    otherSideEnds();
    thisSideEnds();
    bothEnd();
    timeWait();
    acceptable();
    ordering();
    wrapping();
    finOutOfOrder();
    acknowledgements();
    idle();
    Kit.finish();
  }

  private static void begins() {
    Kit kit = Kit.knowing(P);
    Peer peer = new Peer(kit, P, 5000);
    peer.window = 7000;
    Kit.due("5: SYN ACK", peer.syn(40, 0xFFFFFFFF, Kit.hex("02040400")), 1);
    byte[] frame = kit.frame(0);
    Kit.due("5: well formed", Kit.faultOf(frame), "");
    Kit.due("5: total length", Kit.two(frame, 16), 44);
    Kit.due("5: its header", Kit.hex(Kit.slice(frame, 34, 50)), "0050" + "1388" + "00012110" + "00000000" + "6012" + "1000");
    Kit.due("5: urgent and option", Kit.hex(Kit.slice(frame, 52, 58)), "0000" + "020405b4");
    Kit.due("13: SYN RECEIVED", kit.host.state(0), 1);
    long iss = 64000 + 250 * 40;
    long[] want = {P, 5000, iss, iss + 1, iss + 1, 0, 7000, 4096, 65535, 1000, 1024, 0, 0, 0, 0};
    for (int i = 0; i < want.length; i++) {
      Kit.due("14: look " + i, kit.host.look(0, i), want[i]);
    }
    Kit.due("14: look 15", kit.host.look(0, 15), 4294967296L);
    Kit.due("14: look -1", kit.host.look(0, -1), 4294967296L);
    Kit.due("14: no connection", kit.host.look(1, 0), 4294967296L);
    Kit.due("14: no place", kit.host.look(16, 0), 4294967296L);
    Kit.due("14: below", kit.host.look(-1, 0), 4294967296L);
    Kit.due("13: no connection", kit.host.state(1), 0);
    Kit.due("17: begun", kit.host.counted(5), 1);
    peer.window = 8000;
    Kit.due("5: opened", peer.raw(45, Peer.ACK, peer.seq, peer.ack, ""), 0);
    Kit.due("13: ESTABLISHED", kit.host.state(0), 2);
    Kit.due("14: UNA", kit.host.look(0, 2), iss + 1);
    Kit.due("14: the window is taken", kit.host.look(0, 6), 8000);
    Kit.due("14: CWND stays", kit.host.look(0, 7), 4096);
    Kit.due("17: NEW", kit.host.counted(6), 1);
    Kit.due("17: bytes", kit.host.counted(7), 1);
    Peer second = new Peer(kit, P, 5001);
    second.syn(50, 5, new byte[0]);
    Kit.due("5: ISS of the second", kit.host.look(1, 2), 2 * 64000 + 250 * 50);
  }

  private static void mss(String options, int mss, int cwnd) {
    Kit kit = Kit.knowing(P);
    new Peer(kit, P, 5000).syn(1, 100, Kit.hex(options));
    Kit.due("5: MSS of " + options, kit.host.look(0, 10), mss);
    Kit.due("5: CWND of " + options, kit.host.look(0, 7), cwnd);
  }

  private static void options() {
    mss("", 536, 2144);
    mss("020405b4", 1460, 4380);
    mss("020405b5", 1460, 4380);
    mss("0204ffff", 1460, 4380);
    mss("0204003f", 64, 256);
    mss("02040000", 64, 256);
    mss("02040041", 65, 260);
    mss("02040447", 1095, 4380);
    mss("02040448", 1096, 3288);
    mss("0101020403e80000", 1000, 4000);
    mss("0103020403e80000", 536, 2144);
    mss("0804aabb020403e8", 1000, 4000);
    mss("020403e802040200", 1000, 4000);
    mss("0203aa01020403e8", 1000, 4000);
    mss("00000000020403e8", 536, 2144);
    mss("08010101020403e8", 536, 2144);
    mss("08000101020403e8", 536, 2144);
    mss("080902040101020403e80101", 536, 2144);
    mss("01010102", 536, 2144);
    mss("01020403", 536, 2144);
    mss("0a08010101010101", 536, 2144);
    mss("04020101020403e8", 1000, 4000);
    Kit kit = Kit.knowing(P);
    byte[] data = Kit.hex("020403e8");
    kit.arrive(Kit.packet(P, 6, Kit.tcp(P, fields(80, 1, 0, Peer.SYN), Kit.hex("01010101"), data)), 1);
    Kit.due("5: data are no options", kit.host.look(0, 10), 536);
    data = Kit.hex("0403e801");
    kit.arrive(Kit.packet(P + 1, 6, Kit.tcp(P + 1, fields(80, 1, 0, Peer.SYN), Kit.hex("01010102"), data)), 1);
    Kit.due("5: nor the length of one", kit.host.look(1, 10), 536);
  }

  private static int[] fields(int toPort, int seq, int ack, int flags) {
    return new int[] {5000, toPort, seq, ack, flags, 1000};
  }

  private static int alone(Kit kit, int[] fields, String data) {
    return kit.arrive(Kit.packet(P, 6, Kit.tcp(P, fields, new byte[0], Kit.latin(data))), 5);
  }

  private static void withoutConnection() {
    Kit kit = Kit.knowing(P);
    Kit.due("5: RST is dropped", alone(kit, fields(80, 1, 2, Peer.RST), ""), 0);
    Kit.due("5: RST ACK too", alone(kit, fields(81, 1, 2, Peer.RST | Peer.ACK), ""), 0);
    Kit.due("5: FIN too", alone(kit, fields(80, 1, 2, Peer.FIN), ""), 0);
    Kit.due("5: SYN FIN too", alone(kit, fields(80, 1, 2, Peer.SYN | Peer.FIN), ""), 0);
    Kit.due("5: no flags too", alone(kit, fields(80, 1, 2, 0), "abc"), 0);
    Kit.due("17: no resets", kit.host.counted(2), 0);
    Kit.due("5: with ACK", alone(kit, fields(80, 1, 0x77777777, Peer.ACK), "abc"), 1);
    byte[] frame = kit.frame(0);
    Kit.due("5: a reset", Kit.hex(Kit.slice(frame, 34, 50)), "0050" + "1388" + "77777777" + "00000000" + "5004" + "0000");
    Kit.due("5: well formed", Kit.faultOf(frame), "");
    Kit.due("5: its length", Kit.two(frame, 16), 40);
    Kit.due("5: to port 81", alone(kit, fields(81, 0xFFFFFFFE, 9, Peer.SYN | Peer.FIN), "abc"), 1);
    frame = kit.frame(0);
    Kit.due("5: a reset", Kit.hex(Kit.slice(frame, 34, 50)), "0051" + "1388" + "00000000" + "00000003" + "5014" + "0000");
    Kit.due("5: SYN ACK", alone(kit, fields(80, 5, 9, Peer.SYN | Peer.ACK), ""), 1);
    Kit.due("5: a reset at 9", Kit.four(kit.frame(0), 38), 9);
    Kit.due("5: no connection", kit.host.state(0), 0);
    Kit.due("17: resets", kit.host.counted(2), 3);
    Kit.due("17: begun", kit.host.counted(5), 0);
    Kit.due("5: SYN with PSH and data begins", alone(kit, fields(80, 5, 9, Peer.SYN | Peer.PSH), "abc"), 1);
    Kit.due("5: data are not looked at", kit.host.look(0, 5), 6);
  }

  private static void faulty() {
    Kit kit = Kit.knowing(P);
    byte[] segment = Kit.tcp(P, fields(80, 1, 0, Peer.SYN), new byte[0], new byte[0]);
    byte[] bad = segment.clone();
    bad[15] ^= 1;
    Kit.due("5: a wrong sum", kit.arrive(Kit.packet(P, 6, bad), 5), 0);
    Kit.due("5: 19 bytes", kit.arrive(Kit.packet(P, 6, Kit.slice(segment, 0, 19)), 5), 0);
    Kit.due("5: a header of 16", kit.arrive(Kit.packet(P, 6, offset(segment, 4)), 5), 0);
    Kit.due("5: a header of 24 in 20", kit.arrive(Kit.packet(P, 6, offset(segment, 6)), 5), 0);
    Kit.due("5: as it is", kit.arrive(Kit.packet(P, 6, offset(segment, 5)), 5), 1);
    byte[] odd = Kit.tcp(P, fields(81, 1, 0, 0), new byte[0], Kit.latin("a"));
    Kit.due("5: a byte alone counts in the sum", kit.arrive(Kit.packet(P, 6, odd), 5), 1);
  }

  private static byte[] offset(byte[] segment, int words) {
    byte[] changed = segment.clone();
    changed[12] = (byte) (words << 4);
    changed[16] = 0;
    changed[17] = 0;
    byte[] sum = Kit.two(Kit.sum(Kit.join(Kit.four(P), Kit.four(Kit.IP), Kit.two(6), Kit.two(20), changed)));
    changed[16] = sum[0];
    changed[17] = sum[1];
    return changed;
  }

  private static void places() {
    Kit kit = Kit.knowing(P);
    for (int i = 0; i < 16; i++) {
      Kit.due("5: begins", new Peer(kit, P, 5000 + i).syn(1, 9, new byte[0]), 1);
    }
    Kit.due("5: no place", new Peer(kit, P, 6000).syn(1, 9, new byte[0]), 0);
    Kit.due("17: begun", kit.host.counted(5), 16);
    Peer third = new Peer(kit, P, 5002);
    third.raw(2, Peer.RST, 10, 0, "");
    Kit.due("13: gone", kit.host.state(2), 0);
    Kit.due("14: gone", kit.host.look(2, 1), 4294967296L);
    Peer late = new Peer(kit, P, 6000);
    Kit.due("5: the least place", late.syn(3, 9, new byte[0]), 1);
    Kit.due("14: its port", kit.host.look(2, 1), 6000);
    Kit.due("5: ISS by the count", kit.host.look(2, 2), 17 * 64000 + 750);
    Kit.due("5: the same port of another number", new Peer(kit, P + 1, 6000).place(), -1);
  }

  private static void synReceived() {
    Kit kit = Kit.knowing(P);
    Peer peer = new Peer(kit, P, 5000);
    peer.syn(1, 1000, new byte[0]);
    Kit.due("10: SYN again is acknowledged", peer.raw(2, Peer.SYN, 1000, 0, ""), 1);
    Kit.due("5: as ACK", peer.flags(0), 16);
    Kit.due("5: with AT", peer.seqOf(0), peer.ack);
    Kit.due("5: and NEXT", peer.ackOf(0), 1001);
    Kit.due("5: no ACK is dropped", peer.raw(3, 0, 1001, 0, "abc"), 0);
    Kit.due("5: a wrong acknowledgement", peer.raw(4, Peer.ACK, 1001, peer.ack + 1, ""), 1);
    Kit.due("5: is reset", peer.flags(0), 4);
    Kit.due("5: at it", peer.seqOf(0), peer.ack + 1);
    Kit.due("5: ISS itself too", peer.raw(5, Peer.ACK, 1001, peer.ack - 1, ""), 1);
    Kit.due("13: still there", kit.host.state(0), 1);
    Kit.due("17: resets", kit.host.counted(2), 2);
    Kit.due("5: sent again", kit.host.pass(1001), 1);
    Kit.due("5: as SYN ACK", peer.flags(0), 18);
    Kit.due("17: counted", kit.host.counted(3), 1);
    Kit.due("14: RTO", peer.look(9), 2000);
    Kit.due("14: CWND is MSS", peer.look(7), 536);
    Kit.due("14: SSTHRESH stays", peer.look(8), 65535);
    Kit.due("14: TRIES", peer.look(13), 1);
    Kit.due("14: AT", peer.look(3), peer.ack);
    // 3001, 7001, 15001, 31001, then it gives up at 63001; the entry in the cache no longer counts then
    Kit.due("6: four times more", kit.host.pass(63000), 4);
    Kit.due("13: still there", kit.host.state(0), 1);
    kit.arrive(Kit.tell(P), 63000);
    Kit.due("6: given up", kit.host.pass(63001), 1);
    Kit.due("6: RST ACK", peer.flags(0), 20);
    Kit.due("6: at AT", peer.seqOf(0), peer.ack);
    Kit.due("6: with NEXT", peer.ackOf(0), 1001);
    Kit.due("6: and W", peer.windowOf(0), 4096);
    Kit.due("13: gone", kit.host.state(0), 0);
    Kit.due("17: resets", kit.host.counted(2), 3);
    Kit.due("6: nothing more", kit.host.pass(600000), 0);
    opensWithAll();
  }

  private static void opensWithAll() {
    Kit kit = Kit.knowing(P);
    Peer peer = new Peer(kit, P, 5000);
    peer.syn(1, 1000, new byte[0]);
    String head = "GET /a.txt HTTP/1.1\r\nHost: h\r\n\r\n";
    Kit.due("5: opening, data and FIN at once", peer.raw(2, Peer.ACK | Peer.FIN, peer.seq, peer.ack, head), 1);
    Kit.due("13: CLOSE WAIT", kit.host.state(0), 7);
    Kit.due("8: answered", peer.data(0).substring(0, 15), "HTTP/1.1 200 OK");
    Kit.due("5: all acknowledged", peer.ackOf(0), peer.seq + head.length() + 1);
  }

  private static void otherSideEnds() {
    Kit kit = Kit.knowing(P);
    Peer peer = new Peer(kit, P, 5000).open(1);
    Kit.due("5: FIN", peer.fin(10), 1);
    Kit.due("13: LAST ACK", kit.host.state(0), 8);
    Kit.due("5: answered with FIN ACK", peer.flags(0), 17);
    Kit.due("5: NEXT is one more", peer.ackOf(0), peer.seq);
    Kit.due("7: the FIN is not held", peer.look(11), 0);
    Kit.due("7: W is full", peer.windowOf(0), 4096);
    Kit.due("14: nothing left", peer.look(12), 0);
    Kit.due("5: acknowledged", peer.ackMore(20, 1), 0);
    Kit.due("13: gone", kit.host.state(0), 0);
    Kit.due("5: a later one is reset", peer.raw(21, Peer.ACK, peer.seq, peer.ack, ""), 1);

    peer = new Peer(kit, P, 5001).open(30);
    peer.window = 0;
    peer.raw(31, Peer.ACK, peer.seq, peer.ack, "");
    Kit.due("5: FIN into a window of 0", peer.fin(32), 1);
    Kit.due("5: acknowledged alone", peer.flags(0), 16);
    Kit.due("13: CLOSE WAIT", kit.host.state(0), 7);
    Kit.due("14: a FIN is due", peer.look(12), 1);
    Kit.due("6: no FIN before the timer", kit.host.pass(1031), 0);
    Kit.due("6: then as one byte", kit.host.pass(1032), 1);
    Kit.due("6: FIN ACK", peer.flags(0), 17);
    Kit.due("13: LAST ACK", kit.host.state(0), 8);
  }

  private static void thisSideEnds() {
    Kit kit = Kit.knowing(P);
    Peer peer = new Peer(kit, P, 5000).open(1);
    Kit.due("8: answered", peer.send(10, CLOSE), 1);
    Kit.due("6: PSH FIN ACK together", peer.flags(0), 25);
    int n = peer.data(0).length();
    Kit.due("13: FIN WAIT 1", kit.host.state(0), 3);
    Kit.due("6: part of it", peer.ackMore(20, n), 0);
    Kit.due("13: FIN WAIT 1 still", kit.host.state(0), 3);
    Kit.due("6: the FIN", peer.ackMore(30, 1), 0);
    Kit.due("13: FIN WAIT 2", kit.host.state(0), 4);
    Kit.due("5: data are taken", peer.send(40, "abc"), 1);
    Kit.due("7: and held", peer.look(11), 3);
    Kit.due("7: told", peer.windowOf(0), 4093);
    Kit.due("6: its life", kit.host.pass(60029), 0);
    Kit.due("13: FIN WAIT 2 still", kit.host.state(0), 4);
    kit.host.pass(60030);
    Kit.due("13: gone behind 60000", kit.host.state(0), 0);
    Kit.due("9: no frame for that", kit.host.time(0), 40);
  }

  private static void bothEnd() {
    Kit kit = Kit.knowing(P);
    Peer peer = new Peer(kit, P, 5000).open(1);
    peer.send(10, CLOSE);
    int n = peer.data(0).length();
    Kit.due("5: FIN without acknowledging ours", peer.fin(20), 1);
    Kit.due("13: CLOSING", kit.host.state(0), 5);
    Kit.due("5: ACK", peer.flags(0), 16);
    Kit.due("5: data here owe nothing", peer.raw(25, Peer.ACK, peer.seq, peer.ack, "abc"), 0);
    Kit.due("14: nor move NEXT", peer.look(5), peer.seq);
    Kit.due("5: nor does a FIN", peer.raw(26, Peer.ACK | Peer.FIN, peer.seq, peer.ack, ""), 0);
    Kit.due("13: CLOSING still", kit.host.state(0), 5);
    Kit.due("5: ours acknowledged", peer.ackMore(30, n + 1), 0);
    Kit.due("13: TIME WAIT", kit.host.state(0), 6);
    peer.raw(50, Peer.ACK, peer.seq, peer.ack, "");
    kit.host.pass(60029);
    Kit.due("13: TIME WAIT still", kit.host.state(0), 6);
    kit.host.pass(60030);
    Kit.due("13: gone behind 60000", kit.host.state(0), 0);

    peer = new Peer(kit, P, 5001).open(60040);
    peer.send(60041, CLOSE);
    peer.ack += n + 1;
    Kit.due("5: FIN and ours acknowledged", peer.fin(60042), 1);
    Kit.due("13: TIME WAIT at once", kit.host.state(0), 6);
  }

  private static void timeWait() {
    Kit kit = Kit.knowing(P);
    Peer peer = new Peer(kit, P, 5000).open(1);
    peer.send(10, CLOSE);
    peer.ackMore(11, peer.data(0).length() + 1);
    Kit.due("5: FIN", peer.fin(20), 1);
    Kit.due("13: TIME WAIT", kit.host.state(0), 6);
    Kit.due("5: FIN again", peer.raw(1000, Peer.FIN | Peer.ACK, peer.seq - 1, peer.ack, ""), 1);
    kit.host.pass(60999);
    Kit.due("13: waiting anew", kit.host.state(0), 6);
    kit.arrive(Kit.tell(P), 60999);
    Kit.due("5: old data are acknowledged", peer.raw(60999, Peer.ACK, peer.seq - 5, peer.ack, "ab"), 1);
    kit.host.pass(61000);
    Kit.due("13: gone", kit.host.state(0), 0);

    peer = new Peer(kit, P, 5001).open(61000);
    peer.send(61010, CLOSE);
    peer.ackMore(61011, peer.data(0).length() + 1);
    peer.fin(61020);
    Kit.due("5: RST with an old FIN changes nothing",
        peer.raw(62000, Peer.FIN | Peer.RST, peer.seq - 1, peer.ack, ""), 0);
    Kit.due("5: an acceptable FIN", peer.raw(63000, Peer.FIN | Peer.ACK, peer.seq, peer.ack, ""), 0);
    Kit.due("14: does not move NEXT", peer.look(5), peer.seq);
    kit.host.pass(122999);
    Kit.due("13: but the waiting began anew", kit.host.state(0), 6);
    kit.host.pass(123000);
    Kit.due("13: gone", kit.host.state(0), 0);
  }

  private static void acceptable() {
    Kit kit = Kit.knowing(P);
    Peer peer = new Peer(kit, P, 5000).open(1);
    int next = peer.seq;
    Kit.due("5: before NEXT", peer.raw(2, Peer.ACK, next - 1, peer.ack, ""), 1);
    Kit.due("5: acknowledged with AT", peer.seqOf(0), peer.ack);
    Kit.due("5: and NEXT", peer.ackOf(0), next);
    Kit.due("5: all before NEXT", peer.raw(3, Peer.ACK, next - 3, peer.ack, "abc"), 1);
    Kit.due("14: NEXT stays", peer.look(5), next);
    Kit.due("5: the last number is NEXT", peer.raw(4, Peer.ACK, next - 3, peer.ack, "abcd"), 1);
    Kit.due("14: NEXT", peer.look(5), next + 1);
    next++;
    Kit.due("5: behind the window", peer.raw(5, Peer.ACK, next + 4095, peer.ack, ""), 1);
    Kit.due("5: at its end", peer.raw(5, Peer.ACK, next + 4094, peer.ack, ""), 0);
    Kit.due("5: RST behind the window", peer.raw(6, Peer.RST, next + 4095, 0, ""), 0);
    Kit.due("5: RST before", peer.raw(6, Peer.RST, next - 1, 0, ""), 0);
    Kit.due("13: still there", kit.host.state(0), 2);
    Kit.due("5: no ACK", peer.raw(7, Peer.PSH, next, 0, "GET"), 0);
    Kit.due("14: dropped", peer.look(5), next);
    Kit.due("5: SYN in the window", peer.raw(8, Peer.SYN, next + 5, 0, "xy"), 1);
    Kit.due("5: a reset", peer.flags(0), 20);
    Kit.due("5: behind all", peer.ackOf(0), next + 8);
    Kit.due("13: gone", kit.host.state(0), 0);

    peer = new Peer(kit, P, 5001).open(9);
    Kit.due("5: SYN ACK in the window", peer.raw(9, Peer.SYN | Peer.ACK, peer.seq, 77, ""), 1);
    Kit.due("5: a reset", peer.flags(0), 4);
    Kit.due("5: at its acknowledgement", peer.seqOf(0), 77);
    Kit.due("13: gone", kit.host.state(0), 0);

    peer = new Peer(kit, P, 5002).open(10);
    Kit.due("5: RST at the window's end", peer.raw(11, Peer.RST | Peer.ACK, peer.seq + 4095, 99, ""), 0);
    Kit.due("13: gone", kit.host.state(0), 0);
    closedWindow(kit);
  }

  /** In FIN WAIT 1 nothing is taken, so the row fills up. */
  private static void closedWindow(Kit kit) {
    Peer peer = new Peer(kit, P, 5003).open(20);
    peer.send(21, CLOSE);
    for (int i = 0; i < 4; i++) {
      peer.send(22 + i, "x".repeat(1000));
    }
    Kit.due("7: held", peer.look(11), 4000);
    Kit.due("7: told", peer.windowOf(0), 96);
    Kit.due("5: more than the window", peer.raw(30, Peer.ACK, peer.seq, peer.ack, "y".repeat(100)), 1);
    peer.seq += 96;
    Kit.due("14: only what fits", peer.look(5), peer.seq);
    Kit.due("7: told", peer.windowOf(0), 0);
    Kit.due("5: W = 0, a byte", peer.raw(31, Peer.ACK, peer.seq, peer.ack, "z"), 1);
    Kit.due("5: W = 0, FIN", peer.raw(31, Peer.ACK | Peer.FIN, peer.seq, peer.ack, ""), 1);
    Kit.due("5: W = 0, one behind", peer.raw(31, Peer.ACK, peer.seq + 1, peer.ack, ""), 1);
    Kit.due("5: W = 0, one before", peer.raw(31, Peer.ACK, peer.seq - 1, peer.ack, ""), 1);
    Kit.due("5: W = 0, an acknowledgement", peer.ackMore(32, 1), 0);
    Kit.due("14: is taken", peer.look(2), peer.ack);
    peer.raw(33, Peer.RST, peer.seq, 0, "");
    Kit.due("5: W = 0, RST", peer.state(), 0);
  }

  private static void ordering() {
    Kit kit = Kit.knowing(P);
    Peer peer = new Peer(kit, P, 5000).open(1);
    String head = "GET /a.txt HTTP/1.1\r\nHost: h\r\n\r\n";
    int next = peer.seq;
    Kit.due("6: the end first", peer.raw(2, Peer.ACK, next + 20, peer.ack, head.substring(20)), 1);
    Kit.due("6: an ACK", peer.flags(0), 16);
    Kit.due("6: for NEXT", peer.ackOf(0), next);
    Kit.due("7: not held", peer.look(11), 0);
    Kit.due("7: W is full", peer.windowOf(0), 4096);
    Kit.due("6: there stays what is there", peer.raw(3, Peer.ACK, next + 10, peer.ack, head.substring(10, 20) + "#####"), 1);
    Kit.due("14: NEXT stays", peer.look(5), next);
    Kit.due("6: the gap closes", peer.raw(4, Peer.ACK, next - 5, peer.ack, "?????" + head.substring(0, 12)), 1);
    Kit.due("8: answered", peer.data(0).substring(0, 15), "HTTP/1.1 200 OK");
    Kit.due("14: NEXT", peer.look(5), next + head.length());
    Kit.due("14: HELD", peer.look(11), 0);
  }

  /** Sequence numbers of both sides pass 2^32. */
  private static void wrapping() {
    Kit kit = Kit.knowing(P);
    Peer peer = new Peer(kit, P, 5000);
    peer.syn(1, -10, new byte[0]);
    peer.raw(2, Peer.ACK, peer.seq, peer.ack, "");
    String head = "GET /a.txt HTTP/1.1\r\nHost: h\r\n\r\n";
    Kit.due("5: the second part", peer.raw(3, Peer.ACK, peer.seq + 16, peer.ack, head.substring(16)), 1);
    Kit.due("5: the first part", peer.raw(4, Peer.ACK, peer.seq, peer.ack, head.substring(0, 16)), 1);
    Kit.due("14: NEXT without sign", peer.look(5), head.length() - 9);
    Kit.due("8: answered", peer.data(0).substring(0, 15), "HTTP/1.1 200 OK");
    Kit.due("5: 2147483648 apart is before", peer.raw(5, Peer.ACK, peer.seq + head.length() + 0x80000000, peer.ack, ""), 1);
  }

  private static void finOutOfOrder() {
    Kit kit = Kit.knowing(P);
    Peer peer = new Peer(kit, P, 5000).open(1);
    String head = "GET /a.txt HTTP/1.1\r\nHost: h\r\n\r\n";
    int next = peer.seq;
    Kit.due("6: FIN without its data", peer.raw(2, Peer.ACK | Peer.FIN, next + head.length(), peer.ack, ""), 1);
    Kit.due("6: an ACK for NEXT", peer.ackOf(0), next);
    Kit.due("13: ESTABLISHED", kit.host.state(0), 2);
    Kit.due("10: another FIN", peer.raw(3, Peer.ACK | Peer.FIN, next + 5, peer.ack, ""), 1);
    Kit.due("6: the data", peer.raw(4, Peer.ACK, next, peer.ack, head), 1);
    Kit.due("14: NEXT with the FIN that was kept", peer.look(5), next + head.length() + 1);
    Kit.due("13: CLOSE WAIT", kit.host.state(0), 7);
    Kit.due("8: answered still", peer.data(0).substring(0, 15), "HTTP/1.1 200 OK");
    Kit.due("6: not closing down yet", peer.flags(0), 24);
    Kit.due("7: the FIN is not held", peer.look(11), 0);
    peer.seq = next + head.length() + 1;
    Kit.due("8: then it is", peer.ackMore(5, peer.data(0).length()), 1);
    Kit.due("6: with a FIN", peer.flags(0), 17);
    Kit.due("13: LAST ACK", kit.host.state(0), 8);

    peer = new Peer(kit, P, 5001).open(10);
    int from = peer.seq;
    Kit.due("10: data up to the window's end, FIN behind",
        peer.raw(11, Peer.ACK | Peer.FIN, from + 4096 - 6, peer.ack, "abcdef"), 1);
    peer.raw(12, Peer.ACK, from, peer.ack, "x".repeat(1400));
    peer.raw(13, Peer.ACK, from + 1400, peer.ack, "x".repeat(1400));
    Kit.due("8: 431", peer.raw(14, Peer.ACK, from + 2800, peer.ack, "x".repeat(1290)), 1);
    Kit.due("14: the FIN was not in the window", peer.look(5), from + 4096);
  }

  private static void acknowledgements() {
    Kit kit = Kit.knowing(P);
    Peer peer = new Peer(kit, P, 5000).open(1);
    Kit.due("5: behind MAX", peer.raw(2, Peer.ACK, peer.seq, peer.ack + 1, "abc"), 1);
    Kit.due("5: an ACK", peer.flags(0), 16);
    Kit.due("5: dropped", peer.look(5), peer.seq);
    Kit.due("5: before UNA, data are taken", peer.raw(3, Peer.ACK, peer.seq, peer.ack - 1, "abc"), 1);
    Kit.due("14: NEXT", peer.look(5), peer.seq + 3);
    peer.seq += 3;
    peer.window = 5000;
    Kit.due("5: before UNA the window is not taken", peer.raw(4, Peer.ACK, peer.seq, peer.ack - 1, ""), 0);
    Kit.due("14: the window", peer.look(6), 65535);
    peer.raw(5, Peer.ACK, peer.seq, peer.ack, "");
    Kit.due("14: taken", peer.look(6), 5000);
    peer.window = 6000;
    peer.raw(6, Peer.ACK, peer.seq + 10, peer.ack, "");
    Kit.due("14: taken from one further on", peer.look(6), 6000);
    peer.window = 7000;
    peer.raw(7, Peer.ACK, peer.seq, peer.ack, "");
    Kit.due("14: not from one before that", peer.look(6), 6000);
  }

  private static void idle() {
    Kit kit = Kit.knowing(P);
    Peer peer = new Peer(kit, P, 5000).open(100);
    Kit.due("6: quiet", kit.host.pass(30099), 0);
    Kit.due("6: closing down", kit.host.pass(30100), 1);
    Kit.due("6: FIN ACK", peer.flags(0), 17);
    Kit.due("13: FIN WAIT 1", kit.host.state(0), 3);
    peer.raw(30101, Peer.RST, peer.seq, 0, "");

    peer = new Peer(kit, P, 5001).open(40000);
    peer.send(50000, "G");
    peer.raw(60000, Peer.ACK, peer.seq, peer.ack, "");
    Kit.due("6: data put it off", kit.host.pass(79999), 0);
    Kit.due("6: closing down", kit.host.pass(80000), 1);
    peer.raw(80001, Peer.RST, peer.seq, 0, "");

    peer = new Peer(kit, P, 5002).open(90000);
    peer.send(90000, "GET /a.txt HTTP/1.1\r\nHost: h\r\n\r\n");
    peer.ackMore(90900, peer.data(0).length());
    peer.raw(95000, Peer.ACK, peer.seq, peer.ack, "");
    Kit.due("6: NEW put it off", kit.host.pass(120899), 0);
    Kit.due("6: closing down", kit.host.pass(120900), 1);
    Kit.due("12: when", kit.host.time(0), 120900);
  }
}
