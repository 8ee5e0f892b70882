/** Point 6 of the terms: the boundaries of sending, timers, timing, congestion, and the ends of connections. */
public final class SendEdges {
  private static final int P = 0x0A000009;
  private static final String GET = "GET /b HTTP/1.1\r\nHost: h\r\n\r\n";
  private static final String CLOSE = "GET /b HTTP/1.1\r\nHost: h\r\nConnection: close\r\n\r\n";
  private static final String SMALL = "HEAD /s HTTP/1.1\r\nHost: h\r\n\r\n";
  private static final String SMALL_CLOSE = "HEAD /s HTTP/1.1\r\nHost: h\r\nConnection: close\r\n\r\n";
  private static final String BODY = Kit.letters(5000);
  /** 99 bytes of head, 5000 of body; with Connection: close 118 and 5000. */
  private static final int ANSWER = 5099;

  public static void main(String[] args) {
    aboveZero();
    mssOrAllOrNoFlight();
    lesserOfWindows();
    finInTheSegment();
    finBeyondTheWindow();
    pushWithTheLast();
    stateWhenTheFinIsSent();
    paysWhatIsOwed();
    timerIsSetOnce();
    timerAtNew();
    timedFromItsFirstNumber();
    rtoAtLeast1000();
    rtoAtMost60000();
    cwndByTheLesser();
    cwndBelowSsthresh();
    cwndAtMost65535();
    cwndByAtLeastOne();
    recoveryEnds();
    duplicateWhileUnaIsBeforeMax();
    duplicatesUpToThree();
    ssthreshAtLeastTwoMss();
    ssthreshIsHalf();
    duplicateCwndAtMost65535();
    firstSegmentAgain();
    runsOutEightTimes();
    runsOutFiveTimes();
    rtoDoubledAtMost60000();
    oneSegmentIsSent();
    newBehindAt();
    overMax();
    zeroWindow();
    zeroWindowSetsTries();
    giveUpTells();
    timeWaitLasts();
    finWait2Lasts();
    establishedLasts();
    establishedWithSomethingInFlight();
    lifeTimerIsOff();
    Kit.finish();
  }

  private static Kit kit() {
    Kit kit = Kit.booted(Kit.image("/b", BODY, "/s", "small"));
    kit.arrive(Kit.tell(P), 0);
    return kit;
  }

  private static Peer opened(int mss) {
    return new Peer(kit(), P, 5000).open(0, mss);
  }

  /** A connection whose first R is so many milliseconds; the time then is 1000 and that. */
  private static Peer openedBehind(int r) {
    Peer peer = new Peer(kit(), P, 5000);
    peer.syn(1000, 1000, Kit.hex("020401f4"));
    peer.raw(1000 + r, Peer.ACK, peer.seq, peer.ack, "");
    return peer;
  }

  private static int again(Peer peer) {
    return peer.host.counted(3);
  }

  private static void aboveZero() {
    Peer peer = opened(500);
    peer.window = 0;
    Kit.due("6: window 0: an ACK alone", peer.send(10, GET), 1);
    Kit.due("6: nothing is sent", peer.look(4), peer.ack);
    peer.window = 1;
    Kit.due("6: window 1", peer.ackMore(11, 0), 1);
    Kit.due("6: one byte", peer.data(0), "H");
    peer.window = 2;
    Kit.due("6: 1 of room, but something in flight", peer.ackMore(12, 0), 0);
    peer.window = 0;
    Kit.due("6: less than nothing of room", peer.ackMore(13, 0), 0);
  }

  /** With so much in flight and so much room: whether the next segment is sent. */
  private static void mssOrAllOrNoFlight() {
    for (int room = 499; room <= 501; room++) {
      Peer peer = opened(500);
      peer.window = 500;
      peer.send(10, GET);
      peer.window = 500 + room;
      Kit.due("6: room for " + room, peer.ackMore(11, 0), room < 500 ? 0 : 1);
    }
    // HEAD /s is answered with fewer bytes than MSS: they are all that is left.
    Peer peer = opened(500);
    peer.send(10, SMALL);
    int n = peer.data(0).length();
    for (int room = n - 2; room <= n; room++) {
      peer = opened(500);
      peer.window = 1;
      peer.send(10, SMALL);
      peer.window = room;
      Kit.due("6: all that is left but " + (n - room), peer.ackMore(11, 0), room < n ? 0 : 1);
    }
    for (int room = 1; room <= n; room++) {
      peer = opened(500);
      peer.window = room;
      Kit.due("6: nothing in flight, room for " + room, peer.send(10, SMALL), 1);
      Kit.due("6: all of it is used", peer.data(0).length(), room);
    }
  }

  private static void lesserOfWindows() {
    for (int window = 1999; window <= 2001; window++) {
      Peer peer = opened(500);
      peer.window = window;
      Kit.due("6: CWND 2000, window " + window, peer.send(10, GET), window < 2000 ? 3 : 4);
    }
    Peer peer = opened(1460);
    Kit.due("6: CWND 4380", peer.send(10, GET), 3);
    Kit.due("14: in flight", peer.look(3) - peer.look(2), 4380);
  }

  private static void finInTheSegment() {
    int n = smallClose();
    for (int mss = n - 1; mss <= n + 1; mss++) {
      Peer peer = opened(mss);
      Kit.due("6: MSS " + mss + " for " + n, peer.send(10, SMALL_CLOSE), mss < n ? 2 : 1);
      Kit.due("6: the data and the FIN", peer.flags(0), 25);
      Kit.due("6: its data", peer.data(0).length(), mss < n ? 1 : n);
      Kit.due("14: AT is behind the FIN", peer.look(3), peer.ack + n + 1);
    }
  }

  private static int smallClose() {
    Peer peer = opened(1460);
    peer.send(10, SMALL_CLOSE);
    return peer.data(0).length();
  }

  private static void finBeyondTheWindow() {
    int n = smallClose();
    Peer peer = opened(1460);
    peer.window = n + 1;
    peer.send(10, SMALL_CLOSE);
    Kit.due("6: room for the FIN", peer.flags(0), 25);
    peer = opened(1460);
    peer.window = n;
    Kit.due("6: none for the FIN: it counts as a byte", peer.send(10, SMALL_CLOSE), 1);
    Kit.due("6: the data alone", peer.flags(0), 24);
    Kit.due("14: the FIN is left", peer.look(12), 1);
    Kit.due("13: ESTABLISHED", peer.state(), 2);
    peer.window = n + 1;
    Kit.due("6: one more, and it is all that is left", peer.ackMore(11, 0), 1);
    Kit.due("6: the FIN alone", peer.flags(0), 17);
    Kit.due("14: nothing is left", peer.look(12), 0);
    // MSS and CWND: the data of a segment are MSS, and CWND, which is MSS now, has no room for the FIN.
    peer = opened(n);
    peer.send(10, SMALL_CLOSE);
    peer.host.pass(1010);
    Kit.due("6: sent again without the FIN", peer.flags(0), 24);
    Kit.due("14: AT is before the FIN", peer.look(3), peer.ack + n);
    Kit.due("14: MAX is not", peer.look(4), peer.ack + n + 1);
    Kit.due("14: what is left", peer.look(12), 1);
  }

  private static void pushWithTheLast() {
    Peer peer = opened(500);
    peer.send(10, GET);
    Kit.due("6: in the middle", peer.flags(0), 16);
    peer.window = 5000;
    for (int i = 0; i < 6; i++) {
      peer.ackMore(11, 500);
    }
    Kit.due("6: with the last byte", peer.flags(0), 24);
    Kit.due("6: not with the one before", peer.flags(1), 16);
    int n = smallClose();
    peer = opened(1460);
    peer.window = n - 1;
    peer.send(10, SMALL_CLOSE);
    Kit.due("6: all but the last byte", peer.flags(0), 16);
  }

  private static void stateWhenTheFinIsSent() {
    int n = smallClose();
    Peer peer = opened(1460);
    peer.window = n;
    peer.send(10, SMALL_CLOSE);
    Kit.due("13: before", peer.state(), 2);
    peer.window = 65535;
    peer.ackMore(11, 0);
    Kit.due("13: FIN WAIT 1", peer.state(), 3);
    peer = opened(1460);
    peer.window = 0;
    peer.fin(10);
    Kit.due("13: CLOSE WAIT", peer.state(), 7);
    peer.window = 1;
    peer.ackMore(11, 0);
    Kit.due("13: LAST ACK", peer.state(), 8);
  }

  private static void paysWhatIsOwed() {
    Peer peer = opened(1460);
    Kit.due("6: data and an answer: no ACK besides", peer.send(10, SMALL), 1);
    Kit.due("6: it acknowledges", peer.ackOf(0), peer.seq);
    Kit.due("6: data, and nothing to send: an ACK", peer.send(11, "x"), 1);
    Kit.due("6: it is paid once", peer.raw(12, Peer.ACK, peer.seq, peer.ack, ""), 0);
    Kit.due("10: one sent at once pays too", peer.raw(13, Peer.ACK, peer.seq, peer.ack + 9999, "y"), 1);
  }

  private static void timerIsSetOnce() {
    Peer peer = opened(500);
    peer.window = 500;
    peer.send(10, GET);
    peer.window = 1000;
    Kit.due("6: more is sent", peer.ackMore(600, 0), 1);
    Kit.due("6: the timer stays as it was", peer.host.pass(1009), 0);
    Kit.due("6: it runs out", peer.host.pass(1010), 1);
    peer = opened(500);
    peer.send(10, "x");
    Kit.due("6: an ACK alone does not count", peer.host.pass(5000), 0);
  }

  private static void timerAtNew() {
    Peer peer = opened(500);
    peer.window = 500;
    peer.send(10, GET);
    peer.ackMore(500, 499);
    Kit.due("6: UNA is before MAX: set anew", peer.host.pass(1499), 0);
    Kit.due("6: it runs out", peer.host.pass(1500), 1);
    peer = opened(500);
    peer.send(10, SMALL);
    peer.ackMore(500, peer.data(0).length());
    Kit.due("6: UNA is MAX: off", peer.host.pass(29999), 0);
    peer = opened(500);
    peer.send(10, SMALL);
    peer.ackMore(500, 0);
    Kit.due("6: not NEW: it stays", peer.host.pass(1009), 0);
    Kit.due("6: it runs out", peer.host.pass(1010), 1);
  }

  private static void timedFromItsFirstNumber() {
    // R 500 makes RTO 1500; the answer's first byte is timed from 2000 on.
    Peer peer = openedBehind(500);
    Kit.due("6: R 500", peer.look(9), 1500);
    peer.send(2000, SMALL);
    peer.ackMore(2400, 0);
    Kit.due("6: its first number does not end it", peer.look(9), 1500);
    peer.ackMore(2500, 1);
    Kit.due("6: one behind it does: R 500, VAR 187", peer.look(9), 500 + 4 * 187);
    peer.ackMore(2600, 1);
    Kit.due("6: only once", peer.look(9), 500 + 4 * 187);
    // A resending ends timing without a result, and only a segment from MAX on is timed again.
    peer = openedBehind(500);
    peer.send(2000, SMALL);
    peer.host.pass(3500);
    Kit.due("14: RTO", peer.look(9), 3000);
    peer.ackMore(3600, peer.data(0).length());
    Kit.due("6: no result", peer.look(9), 3000);
    peer.send(4000, SMALL);
    peer.ackMore(4100, 1);
    Kit.due("6: R 100: VAR 287, SRTT 450", peer.look(9), 450 + 4 * 287);
    // At the third DUPLICATE too.
    peer = openedBehind(500);
    peer.send(2000, SMALL);
    for (int i = 0; i < 3; i++) {
      peer.ackMore(2100, 0);
    }
    peer.ackMore(2200, 1);
    Kit.due("6: no result", peer.look(9), 1500);
  }

  private static void rtoAtLeast1000() {
    int[] r = {0, 1, 332, 333, 334, 335, 999};
    int[] rto = {1000, 1000, 1000, 1000, 1002, 1003, 2995};
    for (int i = 0; i < r.length; i++) {
      Kit.due("6: RTO of R " + r[i], openedBehind(r[i]).look(9), rto[i]);
    }
  }

  /** Each R is as great as it can be, just before the timer runs out. */
  private static void rtoAtMost60000() {
    Peer peer = openedBehind(999);
    int srtt = 999;
    int var = 499;
    int rto = 2995;
    int time = 2000;
    boolean reached = false;
    for (int i = 0; i < 14; i++) {
      peer.kit.arrive(Kit.tell(P), time);
      peer.send(time, SMALL);
      int n = peer.data(0).length();
      int r = rto - 1;
      time += r;
      peer.ackMore(time, n);
      var = (3 * var + Math.abs(srtt - r)) / 4;
      srtt = (7 * srtt + r) / 8;
      rto = srtt + Math.max(10, 4 * var);
      reached = reached || rto > 60000;
      rto = Math.min(rto, 60000);
      Kit.due("6: RTO of R " + r, peer.look(9), rto);
    }
    Kit.due("6: it would have been above 60000", reached, true);
    Kit.due("17: none was sent again", again(peer), 0);
  }

  private static void cwndByTheLesser() {
    for (int d = 1; d <= 502; d += d == 1 ? 498 : 1) {
      Peer peer = opened(500);
      peer.send(10, GET);
      peer.ackMore(20, d);
      Kit.due("6: d " + d, peer.look(7), 2000 + Math.min(d, 500));
    }
  }

  private static void cwndBelowSsthresh() {
    for (int d = 498; d <= 501; d++) {
      Peer peer = opened(500);
      peer.send(10, GET);
      peer.host.pass(1010);
      Kit.due("14: SSTHRESH", peer.look(8), 1000);
      peer.ackMore(1020, d);
      int cwnd = 500 + Math.min(d, 500);
      Kit.due("14: CWND", peer.look(7), cwnd);
      peer.ackMore(1030, 300);
      Kit.due("6: CWND of " + cwnd, peer.look(7), cwnd < 1000 ? cwnd + 300 : cwnd + 500 * 500 / cwnd);
    }
  }

  private static void cwndAtMost65535() {
    Peer peer = opened(1460);
    int cwnd = 4380;
    for (int i = 0; i < 16; i++) {
      peer.send(10, GET);
      for (int left = ANSWER; left > 0; left -= 1460) {
        int d = Math.min(left, 1460);
        peer.ackMore(10, d);
        cwnd += cwnd < 65535 ? d : 1460 * 1460 / cwnd;
        cwnd = Math.min(cwnd, 65535);
        Kit.due("6: CWND", peer.look(7), cwnd);
      }
    }
    Kit.due("6: at most 65535", cwnd, 65535);
  }

  /** With MSS 64 and CWND above 4096 MSS * MSS / CWND is 0. */
  private static void cwndByAtLeastOne() {
    Kit kit = Kit.booted(Kit.image("/b", BODY + BODY));
    Peer peer = new Peer(kit, P, 5000).open(0, 64);
    peer.send(10, GET);
    for (int i = 0; i < 130; i++) {
      peer.ackMore(10, 0);
    }
    int flight = (int) (peer.look(4) - peer.look(2));
    Kit.due("6: much is in flight", flight > 8300, true);
    peer.ackMore(20, 1);
    Kit.due("6: the recovery ended", peer.look(7), 128);
    for (int i = 0; i < 3; i++) {
      peer.ackMore(20, 0);
    }
    peer.ackMore(30, 1);
    int half = (flight - 1) / 2;
    Kit.due("6: SSTHRESH is half of it", peer.look(8), half);
    Kit.due("6: CWND is SSTHRESH", peer.look(7), half);
    peer.ackMore(40, 300);
    Kit.due("6: it grows by one", peer.look(7), half + 1);
  }

  private static void recoveryEnds() {
    Peer peer = opened(500);
    peer.send(10, GET);
    for (int i = 0; i < 3; i++) {
      peer.ackMore(20, 0);
    }
    Kit.due("6: CWND in recovery", peer.look(7), 2500);
    peer.ackMore(30, 1);
    Kit.due("6: ended by one byte: CWND is SSTHRESH", peer.look(7), 1000);
    peer.ackMore(40, 1);
    Kit.due("6: and grows again", peer.look(7), 1250);
    peer = opened(500);
    peer.send(10, GET);
    peer.ackMore(20, 0);
    peer.ackMore(20, 0);
    peer.ackMore(30, 1);
    Kit.due("6: two DUPLICATES are no recovery", peer.look(7), 2001);
    Kit.due("6: DUPLICATES 0", peer.look(14), 0);
  }

  private static void duplicateWhileUnaIsBeforeMax() {
    Peer peer = opened(500);
    peer.window = 1;
    peer.send(10, SMALL);
    peer.ackMore(20, 0);
    Kit.due("5: a byte in flight", peer.look(14), 1);
    peer.ackMore(30, 1);
    peer.window = 1;
    Kit.due("5: NEW", peer.look(14), 0);
    peer = opened(500);
    peer.ackMore(20, 0);
    Kit.due("5: none in flight", peer.look(14), 0);
    peer.send(30, SMALL);
    int n = peer.data(0).length();
    peer.window = 65534;
    peer.ackMore(40, 0);
    Kit.due("5: another window", peer.look(14), 0);
    peer.ackMore(40, 0);
    Kit.due("10: which is the one that we have now", peer.look(14), 1);
    peer.raw(40, Peer.ACK, peer.seq, peer.ack, "x");
    Kit.due("5: a byte of data", peer.look(14), 1);
    peer.raw(40, Peer.ACK, peer.seq + 5, peer.ack, "");
    Kit.due("5: any number in the window", peer.look(14), 2);
    peer.raw(40, Peer.ACK | Peer.FIN, peer.seq + 5, peer.ack, "");
    Kit.due("5: FIN", peer.look(14), 2);
    peer.raw(40, Peer.ACK, peer.seq + 5, peer.ack - 1, "");
    Kit.due("5: before UNA", peer.look(14), 2);
    peer.raw(50, Peer.ACK, peer.seq + 5, peer.ack + n, "");
    Kit.due("5: NEW", peer.look(14), 0);
    peer.raw(60, Peer.ACK, peer.seq + 5, peer.ack + n, "");
    Kit.due("5: none in flight any more", peer.look(14), 0);
  }

  private static void duplicatesUpToThree() {
    Peer peer = opened(500);
    peer.send(10, GET);
    for (int i = 1; i <= 6; i++) {
      peer.ackMore(20, 0);
      Kit.due("14: DUPLICATES", peer.look(14), i);
      Kit.due("17: again at 3 alone", again(peer), i < 3 ? 0 : 1);
      Kit.due("6: CWND at " + i, peer.look(7), i < 3 ? 2000 : 2500 + 500 * (i - 3));
      Kit.due("6: SSTHRESH at " + i, peer.look(8), i < 3 ? 65535 : 1000);
    }
  }

  private static void ssthreshAtLeastTwoMss() {
    Peer peer = opened(500);
    peer.send(10, SMALL);
    for (int i = 0; i < 3; i++) {
      peer.ackMore(20, 0);
    }
    Kit.due("6: at the third DUPLICATE", peer.look(8), 1000);
    Kit.due("6: CWND", peer.look(7), 2500);
    peer = opened(500);
    peer.send(10, SMALL);
    peer.host.pass(1010);
    Kit.due("6: when the timer runs out", peer.look(8), 1000);
    peer = opened(500);
    peer.window = 0;
    peer.send(10, SMALL);
    peer.host.pass(1010);
    Kit.due("6: with nothing in flight", peer.look(8), 1000);
    peer = new Peer(kit(), P, 5000);
    peer.syn(0, 1000, Kit.hex("020401f4"));
    peer.host.pass(1000);
    Kit.due("6: not in SYN RECEIVED", peer.look(8), 65535);
  }

  /** In flight: 2000 and more, of which the half is cut. */
  private static void ssthreshIsHalf() {
    for (int more = 1; more <= 4; more++) {
      Peer peer = opened(500);
      peer.send(10, GET);
      peer.ackMore(20, 500);
      // 2500 in flight now, CWND 2500; some of it is acknowledged.
      peer.window = 2500 - 496 + more - 1;
      peer.ackMore(20, 500 - more);
      int flight = (int) (peer.look(4) - peer.look(2));
      Kit.due("6: in flight", flight, 2000 + more);
      for (int i = 0; i < 3; i++) {
        peer.ackMore(30, 0);
      }
      Kit.due("6: half of " + flight, peer.look(8), flight / 2);
      Kit.due("6: CWND", peer.look(7), flight / 2 + 1500);
    }
    Peer peer = opened(500);
    peer.send(10, GET);
    peer.ackMore(20, 500);
    peer.host.pass(1020);
    Kit.due("6: when the timer runs out", peer.look(8), 1250);
    Kit.due("14: AT went back", peer.look(3) - peer.look(2), 500);
    for (int i = 0; i < 3; i++) {
      peer.ackMore(1030, 0);
    }
    Kit.due("6: by MAX, not by AT", peer.look(8), 1250);
    Kit.due("6: CWND", peer.look(7), 2750);
    peer.host.pass(3020);
    Kit.due("6: when it runs out again", peer.look(8), 1250);
  }

  private static void duplicateCwndAtMost65535() {
    Peer peer = opened(1460);
    peer.send(10, GET);
    int cwnd = 0;
    for (int i = 1; i <= 60; i++) {
      peer.ackMore(20, 0);
      cwnd = i < 3 ? 4380 : i == 3 ? 2920 + 4380 : Math.min(65535, cwnd + 1460);
      Kit.due("6: CWND at " + i, peer.look(7), cwnd);
    }
    Kit.due("6: at most 65535", cwnd, 65535);
  }

  private static void firstSegmentAgain() {
    Peer peer = opened(500);
    peer.window = 499;
    peer.send(10, GET);
    for (int i = 0; i < 3; i++) {
      peer.ackMore(20, 0);
    }
    Kit.due("6: what was sent is less than MSS", peer.data(0).length(), 499);
    Kit.due("6: from UNA on", peer.seqOf(0), peer.ack);
    Kit.due("14: AT stays", peer.look(3), peer.ack + 499);
    peer = opened(500);
    peer.window = 501;
    peer.send(10, GET);
    peer.ackMore(15, 1);
    for (int i = 0; i < 3; i++) {
      peer.ackMore(20, 0);
    }
    Kit.due("17: again", again(peer), 1);
    Kit.due("6: what was sent is just so much", peer.data(0).length(), 499);
    int n = smallClose();
    peer = opened(1460);
    peer.send(10, SMALL_CLOSE);
    peer.ackMore(20, n);
    for (int i = 0; i < 3; i++) {
      peer.ackMore(30, 0);
    }
    Kit.due("6: the FIN alone", peer.flags(0), 17);
    Kit.due("17: again", again(peer), 1);
    Kit.due("14: AT", peer.look(3), peer.ack + 1);
  }

  /** Lets the timer run out so many times, the peer's address being told before each. */
  private static int runOut(Peer peer, int from, int rto, int times) {
    int time = from;
    int next = rto;
    for (int i = 0; i < times; i++) {
      time += next;
      peer.kit.arrive(Kit.tell(P), time - 1);
      peer.host.pass(time);
      next = Math.min(60000, 2 * next);
    }
    return time;
  }

  private static void runsOutEightTimes() {
    Peer peer = opened(500);
    peer.send(0, SMALL);
    int time = runOut(peer, 0, 1000, 8);
    Kit.due("14: TRIES", peer.look(13), 8);
    Kit.due("13: still there", peer.state(), 2);
    Kit.due("17: sent again", again(peer), 8);
    Kit.due("6: not before its time", peer.host.pass(time + 59999), 0);
    Kit.due("17: no reset yet", peer.host.counted(2), 0);
    peer.kit.arrive(Kit.tell(P), time + 59999);
    Kit.due("6: the ninth time", peer.host.pass(time + 60000), 1);
    Kit.due("6: a reset", peer.flags(0), 20);
    Kit.due("13: gone", peer.host.state(0), 0);
    Kit.due("17: a reset", peer.host.counted(2), 1);
    peer = opened(500);
    peer.send(0, SMALL);
    time = runOut(peer, 0, 1000, 8);
    peer.ackMore(time + 1, 1);
    Kit.due("6: NEW sets TRIES to 0", peer.look(13), 0);
    peer.host.pass(time + 1 + 60000);
    Kit.due("6: so it goes on", peer.look(13), 1);
  }

  private static void runsOutFiveTimes() {
    Peer peer = new Peer(kit(), P, 5000);
    peer.syn(0, 1000, new byte[0]);
    int time = runOut(peer, 0, 1000, 5);
    Kit.due("14: TRIES", peer.look(13), 5);
    Kit.due("13: still there", peer.state(), 1);
    Kit.due("17: sent again", again(peer), 5);
    Kit.due("6: as SYN ACK", peer.flags(0), 18);
    peer.host.pass(time + 31999);
    Kit.due("13: not before its time", peer.state(), 1);
    peer.kit.arrive(Kit.tell(P), time + 31999);
    Kit.due("6: the sixth time", peer.host.pass(time + 32000), 1);
    Kit.due("6: a reset", peer.flags(0), 20);
    Kit.due("13: gone", peer.host.state(0), 0);
    peer = new Peer(kit(), P, 5000);
    peer.syn(0, 1000, new byte[0]);
    time = runOut(peer, 0, 1000, 5);
    peer.raw(time + 1, Peer.ACK, peer.seq, peer.ack, "");
    Kit.due("13: just in time", peer.state(), 2);
    Kit.due("14: CWND is MSS still", peer.look(7), 536);
    Kit.due("14: RTO stays", peer.look(9), 32000);
  }

  private static void rtoDoubledAtMost60000() {
    Peer peer = opened(500);
    peer.send(0, SMALL);
    int[] rto = {2000, 4000, 8000, 16000, 32000, 60000, 60000};
    for (int i = 0; i < rto.length; i++) {
      peer.host.pass(peer.host.now() + (i == 0 ? 1000 : rto[i - 1]));
      Kit.due("6: RTO", peer.look(9), rto[i]);
    }
  }

  private static void oneSegmentIsSent() {
    for (int window : new int[] {0, 1, 2, 499, 500, 501}) {
      Peer peer = opened(500);
      peer.send(10, GET);
      peer.window = window;
      peer.ackMore(20, 0);
      Kit.due("6: window " + window, peer.host.pass(1010), 1);
      Kit.due("6: how much", peer.data(0).length(), window == 0 ? 1 : Math.min(window, 500));
      Kit.due("6: from UNA on", peer.seqOf(0), peer.ack);
      Kit.due("14: AT", peer.look(3), peer.ack + peer.data(0).length());
      Kit.due("14: MAX stays", peer.look(4), peer.ack + 2000);
      Kit.due("6: the timer is set", peer.host.pass(3009), 0);
      Kit.due("6: to the new RTO", peer.host.pass(3010), 1);
    }
  }

  /** After a timeout AT is 500 behind UNA; the acknowledgement comes up to it, or passes it. */
  private static void newBehindAt() {
    for (int d = 499; d <= 501; d++) {
      Peer peer = opened(500);
      peer.send(10, GET);
      peer.host.pass(1010);
      int at = (int) peer.look(3);
      peer.window = 0;
      peer.ackMore(1020, d);
      Kit.due("6: AT with d " + d, (int) peer.look(3), d > 500 ? at + 1 : at);
      Kit.due("14: UNA", (int) peer.look(2), at - 500 + d);
    }
  }

  private static void overMax() {
    Peer peer = opened(500);
    peer.send(10, GET);
    int first = peer.ack;
    for (int i = 0; i < 3; i++) {
      peer.ackMore(20, 250);
    }
    Kit.due("14: MAX", peer.look(4), first + 3500);
    peer.host.pass(1020);
    Kit.due("14: AT", peer.look(3), first + 1250);
    int again = again(peer);
    peer.ackMore(1050, 2250);
    Kit.due("6: one begins before MAX", peer.seqOf(1), first + 3000);
    Kit.due("6: one begins at MAX", peer.seqOf(0), first + 3500);
    Kit.due("10: which is not sent again", again(peer), again + 1);
    Kit.due("14: MAX goes on", peer.look(4), first + 4000);

    peer = opened(500);
    peer.send(10, GET);
    first = peer.ack;
    peer.host.pass(1010);
    peer.ackMore(1020, 250);
    again = again(peer);
    peer.ackMore(1030, 1500);
    Kit.due("6: one begins before MAX and ends behind it", peer.seqOf(1), first + 1750);
    Kit.due("6: it is one sent again", again(peer), again + 1);
    Kit.due("14: MAX goes on", peer.look(4), first + 2750);
    long rto = peer.look(9);
    peer.ackMore(1040, 1);
    Kit.due("6: and is not timed", peer.look(9), rto);
  }

  private static void zeroWindow() {
    Peer peer = opened(500);
    peer.window = 0;
    peer.send(10, SMALL);
    Kit.due("6: set when something is to be sent", peer.host.pass(1009), 0);
    Kit.due("6: one byte", peer.host.pass(1010), 1);
    Kit.due("6: from UNA on", peer.seqOf(0), peer.ack);
    Kit.due("6: it counts as sent", peer.look(4), peer.ack + 1);
    Kit.due("14: AT too", peer.look(3), peer.ack + 1);
    Kit.due("6: acknowledged, the window 0 still", peer.ackMore(1500, 1), 0);
    // R 490 behind one of 0: VAR 122, SRTT 61, so RTO is 1000 again.
    Kit.due("6: set again", peer.host.pass(2499), 0);
    Kit.due("6: the next byte", peer.host.pass(2500), 1);
    Kit.due("6: behind the first", peer.seqOf(0), peer.ack);
    peer = opened(500);
    peer.window = 0;
    peer.ackMore(10, 0);
    Kit.due("6: nothing to send: no timer", peer.host.pass(29999), 0);
    peer = opened(500);
    peer.window = 0;
    peer.fin(10);
    Kit.due("6: a FIN to send", peer.host.pass(1009), 0);
    Kit.due("6: counts as a byte", peer.host.pass(1010), 1);
    Kit.due("6: the FIN", peer.flags(0), 17);
  }

  private static void zeroWindowSetsTries() {
    int[] windows = {0, 1};
    for (int window : windows) {
      Peer peer = opened(500);
      peer.window = 0;
      peer.send(10, SMALL);
      peer.host.pass(1010);
      peer.host.pass(3010);
      Kit.due("14: TRIES", peer.look(13), 2);
      peer.raw(3020, Peer.ACK, peer.seq, peer.ack - 1, "");
      Kit.due("6: before UNA", peer.look(13), 2);
      peer.raw(3020, Peer.ACK, peer.seq, peer.ack + 2, "");
      Kit.due("6: behind MAX", peer.look(13), 2);
      peer.window = window;
      peer.ackMore(3020, 0);
      Kit.due("6: UNA, and the window is " + window + " behind it", peer.look(13), window == 0 ? 0 : 2);
    }
    // A window of 0 that is not taken, since it is an older one, leaves the one that we have.
    Peer peer = opened(500);
    peer.send(10, SMALL);
    peer.raw(11, Peer.ACK, peer.seq + 10, peer.ack, "");
    peer.host.pass(1010);
    Kit.due("14: TRIES", peer.look(13), 1);
    peer.window = 0;
    peer.raw(1020, Peer.ACK, peer.seq, peer.ack, "");
    Kit.due("6: the window is not 0 behind it", peer.look(13), 1);
  }

  private static void giveUpTells() {
    Peer peer = opened(500);
    peer.send(0, GET);
    peer.send(0, "0123456789");
    runOut(peer, 0, 1000, 8);
    peer.kit.arrive(Kit.tell(P), 243000 - 1);
    Kit.due("6: given up", peer.host.pass(243000), 1);
    Kit.due("10: AT", peer.seqOf(0), peer.ack + 500);
    Kit.due("10: NEXT", peer.ackOf(0), peer.seq);
    Kit.due("10: W", peer.windowOf(0), 4086);
    Kit.due("6: RST ACK", peer.flags(0), 20);
  }

  private static void timeWaitLasts() {
    Peer peer = opened(500);
    peer.send(10, SMALL_CLOSE);
    peer.ackMore(20, smallClose() + 1);
    peer.fin(30);
    peer.host.pass(60029);
    Kit.due("6: TIME WAIT", peer.host.state(0), 6);
    Kit.due("6: no frame for its end", peer.host.pass(60030), 0);
    Kit.due("6: gone", peer.host.state(0), 0);
  }

  private static void finWait2Lasts() {
    Peer peer = opened(500);
    peer.send(10, SMALL_CLOSE);
    peer.ackMore(20, smallClose() + 1);
    peer.send(50000, "x");
    peer.host.pass(60019);
    Kit.due("6: FIN WAIT 2", peer.host.state(0), 4);
    peer.host.pass(60020);
    Kit.due("6: gone, data or not", peer.host.state(0), 0);
  }

  private static void establishedLasts() {
    Peer peer = new Peer(kit(), P, 5000);
    peer.syn(100, 1000, new byte[0]);
    peer.raw(600, Peer.ACK, peer.seq, peer.ack, "");
    Kit.due("10: since it became ESTABLISHED", peer.host.pass(30599), 0);
    Kit.due("6: the FIN is sent", peer.host.pass(30600), 1);
    Kit.due("6: FIN ACK", peer.flags(0), 17);
    Kit.due("13: FIN WAIT 1", peer.state(), 3);
    Kit.due("12: when", peer.host.time(0), 30600);

    peer = opened(500);
    peer.send(20000, "x");
    peer.raw(25000, Peer.ACK, peer.seq, peer.ack, "");
    peer.raw(26000, Peer.ACK, peer.seq - 1, peer.ack, "x");
    Kit.due("6: since the last data that came", peer.host.pass(49999), 0);
    Kit.due("6: the FIN is sent", peer.host.pass(50000), 1);

    peer = opened(500);
    peer.raw(20000, Peer.ACK, peer.seq + 100, peer.ack, "x");
    Kit.due("6: data that are ahead came too", peer.host.pass(49999), 0);
    Kit.due("6: the FIN is sent", peer.host.pass(50000), 1);

    peer = opened(500);
    peer.send(20000, SMALL);
    peer.ackMore(20900, peer.data(0).length());
    Kit.due("6: since the last NEW", peer.host.pass(50899), 0);
    Kit.due("6: the FIN is sent", peer.host.pass(50900), 1);

    peer = opened(500);
    peer.window = 0;
    peer.ackMore(10, 0);
    Kit.due("6: a window of 0: it is closing down", peer.host.pass(30000), 0);
    Kit.due("14: the FIN is due", peer.look(12), 1);
    Kit.due("13: ESTABLISHED", peer.state(), 2);
    peer.host.pass(30999);
    Kit.due("13: ESTABLISHED", peer.state(), 2);
    peer.host.pass(31000);
    Kit.due("13: the timer sends it", peer.state(), 3);
  }

  private static void establishedWithSomethingInFlight() {
    Peer peer = opened(500);
    peer.window = 0;
    peer.send(10, SMALL);
    int left = (int) peer.look(12);
    peer.host.pass(40000);
    Kit.due("6: with something to send it stays", peer.state(), 2);
    Kit.due("6: and no FIN is due", peer.look(12) + peer.look(3) - peer.look(2), left);
    peer = opened(500);
    peer.send(10, SMALL);
    int n = peer.data(0).length();
    peer.host.pass(32000);
    Kit.due("6: with something in flight too", peer.look(3) - peer.look(2) + peer.look(12), n);
    Kit.due("13: ESTABLISHED", peer.state(), 2);
  }

  private static void lifeTimerIsOff() {
    // FIN WAIT 2 since 20, TIME WAIT since 40000.
    Peer peer = opened(500);
    peer.send(10, SMALL_CLOSE);
    peer.ackMore(20, smallClose() + 1);
    peer.fin(40000);
    Kit.due("13: TIME WAIT", peer.host.state(0), 6);
    peer.host.pass(99999);
    Kit.due("6: that of FIN WAIT 2 is off", peer.host.state(0), 6);
    peer.host.pass(100000);
    Kit.due("6: that of TIME WAIT is not", peer.host.state(0), 0);
    // A connection that is gone leaves no timer to the next one at its place.
    peer = opened(500);
    peer.raw(20000, Peer.RST, peer.seq, 0, "");
    Peer next = new Peer(peer.kit, P, 6000).open(25000);
    Kit.due("13: at the same place", next.place(), 0);
    Kit.due("6: nothing of the one before", peer.host.pass(54999), 0);
    Kit.due("6: its own", peer.host.pass(55000), 1);
  }
}
