/** The terms of sending: windows, congestion, timing, resending, giving up. */
public final class SendTest {
  private static final int P = 0x0A000009;
  private static final String GET = "GET /b HTTP/1.1\r\nHost: h\r\n\r\n";
  private static final String GET_CLOSE = "GET /b HTTP/1.1\r\nHost: h\r\nConnection: close\r\n\r\n";
  private static final String SMALL_CLOSE = "GET /s HTTP/1.1\r\nHost: h\r\nConnection: close\r\n\r\n";
  private static final String BODY = Kit.letters(5000);
  /** 99 bytes of head, 5000 of body. */
  private static final int ANSWER = 5099;

  public static void main(String[] args) {
    slowStart();
    timing();
    duplicates();
    recoveryEnds();
    notDuplicates();
    runsOut();
    givesUp();
    smallWindows();
    zeroWindow();
    probesAnswered();
    finFits();
    finAgain();
    quietWithZeroWindow();
    greatSegments();
    steadyTiming();
    sameTime();
    expiredWhileWaiting();
    Kit.finish();
  }

  private static Kit kit() {
    return Kit.booted(Kit.image("/b", BODY, "/s", "small"));
  }

  private static Peer opened(int mss) {
    return new Peer(kit(), P, 5000).open(0, mss);
  }

  private static void slowStart() {
    Peer peer = opened(500);
    Kit.due("6: four segments", peer.send(10, GET), 4);
    int first = peer.ack;
    for (int i = 0; i < 4; i++) {
      Kit.due("6: its number", peer.seqOf(3 - i), first + 500 * i);
      Kit.due("6: its length", peer.data(3 - i).length(), 500);
      Kit.due("6: ACK alone", peer.flags(3 - i), 16);
    }
    Kit.due("6: the body follows the head", peer.data(3).substring(99), BODY.substring(0, 401));
    Kit.due("6: and goes on", peer.data(2), BODY.substring(401, 901));
    Kit.due("14: AT", peer.look(3), first + 2000);
    Kit.due("14: MAX", peer.look(4), first + 2000);
    Kit.due("14: left", peer.look(12), ANSWER - 2000);
    Kit.due("6: MSS acknowledged, two more", peer.ackMore(20, 500), 2);
    Kit.due("14: CWND grew by MSS", peer.look(7), 2500);
    Kit.due("6: 200 acknowledged", peer.ackMore(30, 200), 0);
    Kit.due("14: CWND grew by 200", peer.look(7), 2700);
    Kit.due("6: 1800 acknowledged: all goes, the last not full, but all that is left", peer.ackMore(40, 1800), 5);
    Kit.due("14: CWND grew by MSS alone", peer.look(7), 3200);
    Kit.due("14: UNA", peer.look(2), first + 2500);
    Kit.due("14: MAX", peer.look(4), first + ANSWER);
    Kit.due("6: 500 acknowledged, nothing is left", peer.ackMore(50, 500), 0);
    Kit.due("6: PSH with the last", peer.flags(0), 24);
    Kit.due("6: its length", peer.data(0).length(), 99);
    Kit.due("14: left", peer.look(12), 0);
    Kit.due("6: all acknowledged", peer.ackMore(60, 2099), 0);
    Kit.due("17: NEW", peer.host.counted(6), 6);
    Kit.due("17: bytes", peer.host.counted(7), ANSWER + 1);
    Kit.due("17: nothing again", peer.host.counted(3), 0);
    Kit.due("6: the timer is off", peer.host.pass(20000), 0);
  }

  private static void timing() {
    Kit kit = kit();
    Peer peer = new Peer(kit, P, 5000);
    kit.arrive(Kit.tell(P), 0);
    peer.syn(0, 1000, Kit.hex("020401f4"));
    peer.raw(500, Peer.ACK, peer.seq, peer.ack, "");
    Kit.due("6: R 500: 500 + 4 * 250", peer.look(9), 1500);
    peer.send(600, GET);
    peer.ackMore(1400, 500);
    Kit.due("6: R 800: VAR 262, SRTT 537", peer.look(9), 537 + 4 * 262);
    // Two segments were sent at 1400, the first of which is timed now; 1500 more were sent at 600.
    peer.ackMore(1450, 1500);
    Kit.due("6: none of them is acknowledged", peer.look(9), 1585);
    peer.ackMore(1460, 1);
    Kit.due("6: an acknowledgement behind its first number: R 60: VAR 315, SRTT 477", peer.look(9), 477 + 4 * 315);

    kit = kit();
    kit.arrive(Kit.tell(P), 0);
    peer = new Peer(kit, P, 5001);
    peer.syn(2000, 1000, new byte[0]);
    kit.host.pass(3000);
    peer.raw(3500, Peer.ACK, peer.seq, peer.ack, "");
    Kit.due("6: a resending ends timing", peer.look(9), 2000);
    Kit.due("6: TRIES", peer.look(13), 0);
    peer.send(3600, SMALL_CLOSE);
    peer.ackMore(3601, 1);
    Kit.due("6: R 1 is the first", peer.look(9), 1000);

    kit = kit();
    kit.arrive(Kit.tell(P), 0);
    peer = new Peer(kit, P, 5002);
    peer.syn(4000, 1000, new byte[0]);
    Kit.due("6: the timer is RTO", kit.host.pass(4999), 0);
    peer.raw(4999, Peer.ACK, peer.seq, peer.ack, "");
    Kit.due("6: R 999: 999 + 4 * 499", peer.look(9), 2995);
    peer.send(5000, GET);
    peer.ackMore(7000, 100);
    Kit.due("6: R 2000: VAR 624, SRTT 1124", peer.look(9), 1124 + 4 * 624);
    int sent = kit.host.sent();
    Kit.due("6: none was sent again", kit.host.counted(3), 0);
    kit.host.pass(10619);
    Kit.due("6: set anew with the new RTO", kit.host.sent(), sent);
    kit.host.pass(10620);
    Kit.due("6: runs out", kit.host.sent(), sent + 1);
  }

  private static void duplicates() {
    Peer peer = opened(500);
    peer.send(10, GET);
    int first = peer.ack;
    Kit.due("6: one", peer.ackMore(20, 0), 0);
    Kit.due("6: two", peer.ackMore(20, 0), 0);
    Kit.due("14: DUPLICATES", peer.look(14), 2);
    Kit.due("14: CWND stays", peer.look(7), 2000);
    Kit.due("6: three: the first again, and a new one", peer.ackMore(21, 0), 2);
    Kit.due("6: the first again", peer.seqOf(1), first);
    Kit.due("6: whole", peer.data(1).length(), 500);
    Kit.due("6: a new one", peer.seqOf(0), first + 2000);
    Kit.due("14: SSTHRESH", peer.look(8), 1000);
    Kit.due("14: CWND", peer.look(7), 2500);
    Kit.due("14: AT goes on from where it was", peer.look(3), first + 2500);
    Kit.due("17: again", peer.host.counted(3), 1);
    Kit.due("6: four", peer.ackMore(22, 0), 1);
    Kit.due("14: CWND", peer.look(7), 3000);
    Kit.due("14: DUPLICATES", peer.look(14), 4);
    Kit.due("6: NEW ends it", peer.ackMore(30, 500), 0);
    Kit.due("14: CWND is SSTHRESH", peer.look(7), 1000);
    Kit.due("14: DUPLICATES", peer.look(14), 0);
    Kit.due("6: NEW", peer.ackMore(40, 2000), 1);
    Kit.due("14: CWND grew by MSS * MSS / CWND", peer.look(7), 1250);
    Kit.due("6: room for one", peer.look(3) - peer.look(2), 1000);
    Kit.due("6: NEW", peer.ackMore(50, 500), 1);
    Kit.due("14: CWND", peer.look(7), 1450);

    peer = opened(64);
    peer.send(10, GET);
    for (int i = 0; i < 3; i++) {
      peer.ackMore(20, 0);
    }
    Kit.due("6: SSTHRESH is 2 MSS at least", peer.look(8), 128);
    Kit.due("14: CWND", peer.look(7), 128 + 192);
  }

  /** More in flight than four segments, and a timer that runs out in recovery. */
  private static void recoveryEnds() {
    Peer peer = opened(500);
    peer.send(10, GET);
    peer.ackMore(20, 500);
    peer.ackMore(20, 500);
    Kit.due("6: in flight", peer.look(4) - peer.look(2), 3000);
    for (int i = 0; i < 3; i++) {
      peer.ackMore(30, 0);
    }
    Kit.due("6: half of that", peer.look(8), 1500);
    Kit.due("14: CWND", peer.look(7), 3000);
    peer.host.pass(1020);
    Kit.due("14: CWND", peer.look(7), 500);
    Kit.due("14: SSTHRESH", peer.look(8), 1500);
    peer.ackMore(1100, 300);
    Kit.due("6: no recovery any more", peer.look(7), 800);
  }

  private static void notDuplicates() {
    Peer peer = opened(500);
    peer.ackMore(5, 0);
    Kit.due("6: nothing in flight", peer.look(14), 0);
    peer.send(10, GET);
    peer.raw(20, Peer.ACK, peer.seq, peer.ack - 1, "");
    Kit.due("6: before UNA", peer.look(14), 0);
    peer.window = 65534;
    peer.ackMore(20, 0);
    Kit.due("6: another window", peer.look(14), 0);
    peer.ackMore(20, 0);
    Kit.due("6: the same window", peer.look(14), 1);
    peer.send(20, "x");
    Kit.due("6: with data", peer.look(14), 1);
    peer.fin(20);
    Kit.due("6: with FIN", peer.look(14), 1);
    peer.ackMore(20, 0);
    Kit.due("6: a true one", peer.look(14), 2);
  }

  private static void runsOut() {
    Peer peer = opened(500);
    peer.send(10, GET);
    int first = peer.ack;
    peer.ackMore(20, 0);
    Kit.due("6: not yet", peer.host.pass(1009), 0);
    Kit.due("6: one segment", peer.host.pass(1010), 1);
    Kit.due("6: the first", peer.seqOf(0), first);
    Kit.due("14: AT", peer.look(3), first + 500);
    Kit.due("14: MAX stays", peer.look(4), first + 2000);
    Kit.due("14: left", peer.look(12), ANSWER - 500);
    Kit.due("14: CWND", peer.look(7), 500);
    Kit.due("14: SSTHRESH", peer.look(8), 1000);
    Kit.due("14: RTO", peer.look(9), 2000);
    Kit.due("14: TRIES", peer.look(13), 1);
    Kit.due("14: DUPLICATES", peer.look(14), 0);
    Kit.due("6: NEW, two again", peer.ackMore(1500, 500), 2);
    Kit.due("6: from AT", peer.seqOf(1), first + 500);
    Kit.due("14: CWND", peer.look(7), 1000);
    Kit.due("14: TRIES", peer.look(13), 0);
    Kit.due("17: again", peer.host.counted(3), 3);
    Kit.due("6: beyond AT: two new ones", peer.ackMore(1600, 1500), 2);
    Kit.due("14: AT too", peer.look(3), first + 3000);
    Kit.due("14: CWND", peer.look(7), 1250);
    Kit.due("17: these are new", peer.host.counted(3), 3);
    Kit.due("14: no result of timing", peer.look(9), 2000);
    Kit.due("6: NEW", peer.ackMore(1700, 500), 1);
    Kit.due("14: CWND", peer.look(7), 1450);
    Kit.due("14: R 100", peer.look(9), 1000);

    peer = opened(500);
    peer.send(10, GET);
    first = peer.ack;
    peer.ackMore(500, 250);
    Kit.due("6: set anew at NEW", peer.host.pass(1499), 0);
    Kit.due("6: runs out", peer.host.pass(1500), 1);
    Kit.due("6: from UNA on", peer.seqOf(0), first + 250);
    Kit.due("6: MSS of it", peer.data(0).length(), 500);
    Kit.due("6: a segment over the end of what was sent", peer.ackMore(1600, 1750), 2);
  }

  private static void givesUp() {
    Peer peer = opened(500);
    peer.send(10, GET);
    int first = peer.ack;
    int[] times = {1010, 3010, 7010, 15010, 31010, 63010, 123010, 183010};
    for (int i = 0; i < times.length; i++) {
      peer.kit.arrive(Kit.tell(P), times[i] - 1);
      Kit.due("6: at " + times[i], peer.host.pass(times[i]), 1);
      Kit.due("14: TRIES", peer.look(13), i + 1);
    }
    Kit.due("14: RTO at most", peer.look(9), 60000);
    Kit.due("14: SSTHRESH is 2 MSS at least", peer.look(8), 1000);
    peer.kit.arrive(Kit.tell(P), 243009);
    Kit.due("13: still there", peer.host.state(0), 2);
    Kit.due("6: then no more", peer.host.pass(243010), 1);
    Kit.due("6: RST ACK", peer.flags(0), 20);
    Kit.due("6: at AT", peer.seqOf(0), first + 500);
    Kit.due("6: NEXT", peer.ackOf(0), peer.seq);
    Kit.due("6: W", peer.windowOf(0), 4096);
    Kit.due("13: gone", peer.host.state(0), 0);
    Kit.due("17: resets", peer.host.counted(2), 1);
    Kit.due("17: again", peer.host.counted(3), 8);
    Kit.due("19: strays", peer.host.strays(), 0);
    Kit.due("6: all timers are off", peer.host.pass(843010), 0);
  }

  private static void smallWindows() {
    Peer peer = opened(500);
    peer.window = 700;
    Kit.due("6: one full segment, 200 of window are not used", peer.send(10, GET), 1);
    peer.window = 300;
    Kit.due("6: nothing in flight: 300", peer.ackMore(20, 500), 1);
    Kit.due("6: its length", peer.data(0).length(), 300);
    peer.window = 200;
    Kit.due("6: a smaller window than what is in flight", peer.ackMore(30, 0), 0);
    peer.window = 799;
    Kit.due("6: room for 499", peer.ackMore(40, 0), 0);
    peer.window = 800;
    Kit.due("6: room for 500", peer.ackMore(50, 0), 1);
    peer.window = 10000;
    Kit.due("6: CWND is the lesser", peer.ackMore(60, 800), 6);
    Kit.due("14: CWND", peer.look(7), 2000 + 500 + 500);
  }

  private static void zeroWindow() {
    Peer peer = opened(500);
    peer.window = 0;
    Kit.due("6: only an ACK", peer.send(10, GET), 1);
    Kit.due("6: without data", peer.data(0), "");
    int first = peer.ack;
    Kit.due("14: left", peer.look(12), ANSWER);
    Kit.due("14: nothing in flight", peer.look(4), first);
    Kit.due("18: yet something to send", peer.host.damage(0, 0), false);
    Kit.due("6: not before RTO", peer.host.pass(1009), 0);
    Kit.due("6: then one byte", peer.host.pass(1010), 1);
    Kit.due("6: the first", peer.data(0), "H");
    Kit.due("14: AT", peer.look(3), first + 1);
    Kit.due("14: MAX", peer.look(4), first + 1);
    Kit.due("14: TRIES", peer.look(13), 1);
    Kit.due("14: RTO", peer.look(9), 2000);
    Kit.due("17: it is new", peer.host.counted(3), 0);
    Kit.due("6: again", peer.host.pass(3010), 1);
    Kit.due("6: the same byte", peer.data(0), "H");
    Kit.due("17: sent again", peer.host.counted(3), 1);
    peer.window = 1200;
    Kit.due("6: taken, the window opens", peer.ackMore(3020, 1), 1);
    Kit.due("6: from the second byte on", peer.seqOf(0), first + 1);
    Kit.due("14: CWND grew by one", peer.look(7), 501);
    peer.window = 0;
    Kit.due("6: closed again", peer.ackMore(3030, 500), 0);
    Kit.due("14: R 10: RTO", peer.look(9), 1000);
    Kit.due("6: the timer was off, and set", peer.host.pass(4029), 0);
    Kit.due("6: runs out", peer.host.pass(4030), 1);
    Kit.due("6: one byte", peer.data(0).length(), 1);
    peer.window = 5000;
    Kit.due("6: not taken, but the window opens: room for 499 alone", peer.ackMore(4040, 0), 0);

    peer = opened(500);
    peer.window = 0;
    peer.send(10, GET);
    peer.window = 600;
    Kit.due("6: opens before the timer", peer.ackMore(500, 0), 1);
    Kit.due("6: which stays as it was", peer.host.pass(1009), 0);
    Kit.due("6: and runs out", peer.host.pass(1010), 1);
    Kit.due("6: all by the rule then", peer.data(0).length(), 500);
  }

  private static void quietWithZeroWindow() {
    Peer peer = opened(500);
    peer.window = 0;
    peer.ackMore(10, 0);
    Kit.due("6: nothing to send, no timer", peer.host.pass(5000), 0);
    peer.send(5010, GET);
    peer.ackMore(5500, 0);
    Kit.due("6: a timer that is set stays", peer.host.pass(6009), 0);
    Kit.due("6: runs out", peer.host.pass(6010), 1);
    Kit.due("6: one byte", peer.data(0), "H");
  }

  private static void greatSegments() {
    Peer peer = opened(1460);
    Kit.due("6: three of 1460", peer.send(10, GET), 3);
    Kit.due("10: its length", peer.host.length(0), 1514);
    Kit.due("6: the last", peer.data(0), BODY.substring(2 * 1460 - 99, 3 * 1460 - 99));
    Kit.due("6: the first", peer.data(2).substring(99), BODY.substring(0, 1460 - 99));
    byte[] name = java.util.Arrays.copyOf(Kit.latin("/first"), 48);
    byte[] head = Kit.join(Kit.latin("STOR"), Kit.two(1), Kit.two(0));
    byte[] check = Kit.four(Kit.check(Kit.latin("STOR")));
    Kit kit = Kit.booted(Kit.sealed(Kit.join(head, name, Kit.four(0), Kit.four(4), check, Kit.four(0))));
    peer = new Peer(kit, P, 5000).open(0);
    peer.send(10, GET.replace("/b", "/first"));
    String data = peer.data(0);
    Kit.due("8: a file at the image's beginning", data.substring(data.length() - 6), "\r\nSTOR");
  }

  /** With R always 995 VAR goes to 2 and below, where 10 is the greater one. */
  private static void steadyTiming() {
    Kit kit = kit();
    kit.arrive(Kit.tell(P), 0);
    Peer peer = new Peer(kit, P, 5000);
    peer.syn(0, 1000, new byte[0]);
    int time = 995;
    peer.raw(time, Peer.ACK, peer.seq, peer.ack, "");
    int var = 497;
    for (int i = 0; i < 22; i++) {
      kit.arrive(Kit.tell(P), time);
      peer.send(time, "HEAD /s HTTP/1.1\r\nHost: h\r\n\r\n");
      int n = peer.data(0).length();
      time += 995;
      peer.ackMore(time, n);
      var = 3 * var / 4;
      Kit.due("6: VAR " + var, peer.look(9), 995 + Math.max(10, 4 * var));
    }
    Kit.due("6: at last", peer.look(9), 1005);
  }

  private static void probesAnswered() {
    Peer peer = opened(500);
    peer.window = 0;
    peer.send(0, GET);
    int time = 0;
    int rto = 1000;
    for (int i = 0; i < 14; i++) {
      peer.kit.arrive(Kit.tell(P), time + 1);
      time += rto;
      peer.host.pass(time);
      rto = Math.min(60000, 2 * rto);
      peer.ackMore(time, 0);
      Kit.due("6: TRIES 0", peer.look(13), 0);
      Kit.due("6: not given up", peer.host.state(0), 2);
    }
    Kit.due("14: RTO", peer.look(9), 60000);
  }

  private static void finFits() {
    Peer peer = opened(1460);
    peer.send(10, SMALL_CLOSE);
    int n = peer.data(0).length();
    Kit.due("6: all in one", peer.flags(0), 25);

    peer = opened(n);
    Kit.due("6: MSS is for the data alone", peer.send(10, SMALL_CLOSE), 1);
    Kit.due("6: all in one", peer.flags(0), 25);

    peer = opened(n);
    peer.window = n;
    Kit.due("6: no window for the FIN", peer.send(10, SMALL_CLOSE), 1);
    Kit.due("6: PSH ACK", peer.flags(0), 24);
    Kit.due("13: ESTABLISHED", peer.host.state(0), 2);
    Kit.due("14: the FIN is left", peer.look(12), 1);
    Kit.due("6: it goes then", peer.ackMore(20, n), 1);
    Kit.due("6: FIN ACK", peer.flags(0), 17);
    Kit.due("13: FIN WAIT 1", peer.host.state(0), 3);

    peer = opened(1460);
    peer.window = n - 1;
    Kit.due("6: less than all", peer.send(10, SMALL_CLOSE), 1);
    Kit.due("6: ACK", peer.flags(0), 16);
    peer.window = n + 1;
    Kit.due("6: the rest with the FIN", peer.ackMore(20, n - 1), 1);
    Kit.due("6: PSH FIN ACK", peer.flags(0), 25);
    Kit.due("6: one byte", peer.data(0), "l");

    peer = opened(64);
    peer.send(10, SMALL_CLOSE);
    Kit.due("6: in parts, the last with all", peer.flags(0), 25);
    Kit.due("6: before that", peer.flags(1), 16);
    Kit.due("6: the first runs out, MSS is CWND", peer.host.pass(1010), 1);
    Kit.due("13: FIN WAIT 1", peer.host.state(0), 3);
    Kit.due("14: left counts the FIN", peer.look(12), n + 1 - 64);
  }

  private static void finAgain() {
    Peer peer = opened(1460);
    peer.send(10, SMALL_CLOSE);
    int n = peer.data(0).length();
    peer.ackMore(20, 0);
    peer.ackMore(20, 0);
    Kit.due("6: three: again", peer.ackMore(20, 0), 1);
    Kit.due("6: with the FIN", peer.flags(0), 25);
    Kit.due("6: all", peer.data(0).length(), n);
    Kit.due("6: runs out", peer.host.pass(1010), 1);
    Kit.due("6: with the FIN", peer.flags(0), 25);
    Kit.due("17: again", peer.host.counted(3), 2);
    Kit.due("6: the data alone are acknowledged", peer.ackMore(1020, n), 0);
    Kit.due("6: the FIN runs out", peer.host.pass(3020), 1);
    Kit.due("6: alone", peer.flags(0), 17);
    Kit.due("6: without data", peer.data(0), "");

    // Sent without the FIN, which was due but had no room: what was sent is what goes again.
    peer = opened(n);
    peer.window = n;
    peer.send(10, SMALL_CLOSE);
    for (int i = 0; i < 3; i++) {
      peer.ackMore(20, 0);
    }
    Kit.due("6: again", peer.host.counted(3), 1);
    Kit.due("6: without the FIN", peer.flags(0), 24);
  }

  private static void sameTime() {
    Kit kit = kit();
    Peer first = new Peer(kit, P, 5000).open(0);
    Peer second = new Peer(kit, P, 5001).open(0);
    second.send(10, SMALL_CLOSE);
    first.send(10, SMALL_CLOSE);
    kit.arrive(Kit.packet(P + 1, 1, Kit.echo(1, "x")), 10);
    Kit.due("9: all at 1010", kit.host.pass(1010), 3);
    Kit.due("9: the ASK first", Kit.two(kit.frame(2), 12), 0x0806);
    Kit.due("9: then by place", Kit.two(kit.frame(1), 36), 5000);
    Kit.due("9: then by place", Kit.two(kit.frame(0), 36), 5001);
    Kit.due("9: each at its own time", kit.host.pass(3100), 3);
    Kit.due("12: the latest", kit.host.time(0), 3010);
    Kit.due("12: the ASK before", kit.host.time(2), 2010);
    second.send(3100, "");
    // A frame at the very time at which something is due comes behind it.
    Kit.due("9: first what is due", second.raw(7010, Peer.RST, second.seq, 0, ""), 2);
    Kit.due("13: then the frame", kit.host.state(1), 0);
  }

  private static void expiredWhileWaiting() {
    Kit kit = kit();
    Peer peer = new Peer(kit, 0x0B000009, 5000);
    Kit.due("3: an ASK for the gateway", peer.syn(0, 1000, new byte[0]), 1);
    Kit.due("16: SYN ACK waits", kit.host.waiting(), 1);
    Kit.due("9: the ASK, then SYN ACK into the same place", kit.host.pass(1000), 1);
    Kit.due("16: still one", kit.host.waiting(), 1);
    Kit.due("3: the gateway tells", kit.arrive(Kit.tell(Kit.GATE), 1100), 1);
    Kit.due("4: the newer one", Kit.two(kit.frame(0), 18), 2);
    Kit.due("5: SYN ACK", peer.flags(0), 18);
  }
}
