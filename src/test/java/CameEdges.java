/** Point 7 of the terms: the boundaries of what a connection keeps, and of the window that it tells. */
public final class CameEdges {
  private static final int P = 0x0A000009;
  private static final String GET = "GET /a.txt HTTP/1.1\r\nHost: h\r\n";

  public static void main(String[] args) {
    windowIsWhatIsLeft();
    heldAreInOrder();
    atMost4096FromRead();
    finIsNotHeld();
    greaterBy2048();
    greaterThanToldLast();
    rowIsUsedAgain();
    numbersWrapInTheRow();
    bodyIsTakenAtOnce();
    Kit.finish();
  }

  /** A connection that keeps an answer to send, so that no request is looked at. */
  private static Peer keeping() {
    Kit kit = Kit.booted();
    Peer peer = new Peer(kit, P, 5000).open(0);
    peer.window = 0;
    peer.send(1, GET + "\r\n");
    return peer;
  }

  private static void fill(Peer peer, int n) {
    for (int left = n; left > 0; left -= 1000) {
      peer.send(2, "x".repeat(Math.min(left, 1000)));
    }
  }

  private static void windowIsWhatIsLeft() {
    for (int held : new int[] {1, 2, 2048, 4094, 4095, 4096}) {
      Peer peer = keeping();
      Kit.due("7: W of nothing", peer.windowOf(0), 4096);
      fill(peer, held);
      Kit.due("7: HELD", peer.look(11), held);
      Kit.due("7: W of " + held, peer.windowOf(0), 4096 - held);
    }
    Peer peer = keeping();
    fill(peer, 4096);
    Kit.due("7: no byte more", peer.send(3, "y"), 1);
    Kit.due("7: HELD", peer.look(11), 4096);
    Kit.due("7: W", peer.windowOf(0), 0);
  }

  private static void heldAreInOrder() {
    Peer peer = keeping();
    peer.raw(2, Peer.ACK, peer.seq + 1, peer.ack, "x".repeat(1000));
    Kit.due("7: what is ahead is not held", peer.look(11), 0);
    Kit.due("7: W", peer.windowOf(0), 4096);
    peer.raw(3, Peer.ACK, peer.seq, peer.ack, "y");
    Kit.due("7: behind the gap it is", peer.look(11), 1001);
    Kit.due("7: W", peer.windowOf(0), 3095);
  }

  private static void atMost4096FromRead() {
    Peer peer = keeping();
    fill(peer, 100);
    peer.raw(2, Peer.ACK, peer.seq + 3990, peer.ack, "0123456789");
    fill(peer, 3990);
    Kit.due("7: of what was ahead only what is before READ + 4096", peer.look(11), 4096);
    Kit.due("7: W", peer.windowOf(0), 0);
  }

  private static void finIsNotHeld() {
    Peer peer = keeping();
    fill(peer, 10);
    peer.raw(3, Peer.ACK | Peer.FIN, peer.seq, peer.ack, "x");
    Kit.due("7: HELD", peer.look(11), 11);
    Kit.due("7: W", peer.windowOf(0), 4085);
    Kit.due("7: NEXT has the FIN", peer.look(5), peer.seq + 2);
  }

  /** A head of n bytes is taken while the window that was told last is 4096 - n. */
  private static int takenAtOnce(int n) {
    Peer peer = keeping();
    String pad = "X: " + "x".repeat(900) + "\r\n";
    peer.send(2, GET + pad);
    peer.send(3, pad + "Y: " + "y".repeat(n - GET.length() - 2 * pad.length() - 7) + "\r\n\r\n");
    Kit.due("7: HELD", peer.look(11), n);
    Kit.due("7: told", peer.windowOf(0), 4096 - n);
    peer.window = 1000;
    peer.ackMore(4, 0);
    int answer = peer.data(0).length();
    peer.window = 0;
    int sent = peer.ackMore(5, answer);
    Kit.due("7: taken", peer.look(11), 0);
    Kit.due("7: told", peer.windowOf(0), sent == 0 ? 4096 - n : 4096);
    return sent;
  }

  private static void greaterBy2048() {
    Kit.due("7: by 2047", takenAtOnce(2047), 0);
    Kit.due("7: by 2048", takenAtOnce(2048), 1);
    Kit.due("7: by 2049", takenAtOnce(2049), 1);
  }

  /** An acknowledgement sent at once tells W too, so that less is to be told later. */
  private static void greaterThanToldLast() {
    Peer peer = keeping();
    String pad = "X: " + "x".repeat(1010) + "\r\n";
    peer.send(2, GET + pad + "\r\n");
    peer.send(2, GET + pad);
    peer.send(2, pad + "\r\n");
    int first = GET.length() + pad.length() + 2;
    int second = GET.length() + 2 * pad.length() + 2;
    Kit.due("7: HELD", peer.look(11), first + second);
    peer.window = 1000;
    peer.ackMore(3, 0);
    int n = peer.data(0).length();
    peer.window = 0;
    Kit.due("7: the first is taken, and too small", peer.ackMore(4, n), 0);
    Kit.due("7: HELD", peer.look(11), second);
    Kit.due("5: one not acceptable", peer.raw(5, Peer.ACK, peer.seq - 1, peer.ack, ""), 1);
    Kit.due("7: tells W", peer.windowOf(0), 4096 - second);
    peer.window = 1000;
    peer.ackMore(6, 0);
    peer.window = 0;
    Kit.due("7: the second is taken, 2048 or more", peer.ackMore(7, n), 1);
    Kit.due("7: tells W", peer.windowOf(0), 4096);
  }

  /** Heads that come in pieces, the last piece first, many times over the length of the row. */
  private static void rowIsUsedAgain() {
    Kit kit = Kit.booted();
    Peer peer = new Peer(kit, P, 5000).open(0);
    for (int i = 0; i < 60; i++) {
      String head = GET + "X: " + (char) ('a' + i % 26) + "y".repeat(300 + 7 * i) + "\r\n\r\n";
      int third = head.length() / 3;
      peer.raw(1, Peer.ACK, peer.seq + 2 * third, peer.ack, head.substring(2 * third));
      peer.raw(1, Peer.ACK, peer.seq + third, peer.ack, head.substring(third, 2 * third) + "####");
      peer.raw(1, Peer.ACK, peer.seq - 9, peer.ack, "?????????" + head.substring(0, third) + "##");
      Kit.due("7: head " + i, peer.data(0).substring(0, 15), "HTTP/1.1 200 OK");
      Kit.due("7: NEXT", peer.look(5), peer.seq + head.length());
      Kit.due("7: nothing is held", peer.look(11), 0);
      peer.seq += head.length();
      peer.ackMore(1, peer.data(0).length());
    }
    Kit.due("7: much more than the row", peer.seq > 5 * 4096, true);
  }

  private static void numbersWrapInTheRow() {
    Kit kit = Kit.booted();
    kit.arrive(Kit.tell(P), 0);
    Peer peer = new Peer(kit, P, 5000);
    peer.syn(0, -2001, new byte[0]);
    peer.raw(0, Peer.ACK, peer.seq, peer.ack, "");
    peer.window = 0;
    peer.send(1, GET + "\r\n");
    peer.raw(2, Peer.ACK, peer.seq + 2000, peer.ack, "y".repeat(1000));
    fill(peer, 2000);
    peer.seq += 1000;
    Kit.due("7: NEXT is behind 0", peer.look(5), 3000 - 2000 + GET.length() + 2);
    Kit.due("7: HELD", peer.look(11), 3000);
    fill(peer, 1096);
    Kit.due("7: all of it", peer.look(11), 4096);
    Kit.due("7: W", peer.windowOf(0), 0);
  }

  private static void bodyIsTakenAtOnce() {
    Kit kit = Kit.booted();
    Peer peer = new Peer(kit, P, 5000).open(0);
    peer.window = 0;
    peer.send(1, GET + "Content-Length: 1500\r\n\r\n");
    Kit.due("8: the answer is kept", peer.look(12) > 0, true);
    peer.send(2, "b".repeat(1000));
    Kit.due("8: taken whenever they are there", peer.look(11), 0);
    Kit.due("7: W", peer.windowOf(0), 4096);
    peer.raw(3, Peer.ACK, peer.seq + 1, peer.ack, "b".repeat(500));
    Kit.due("8: not what is ahead", peer.look(11), 0);
    peer.raw(4, Peer.ACK, peer.seq, peer.ack, "b");
    Kit.due("8: 1500 are taken, the one behind is held", peer.look(11), 1);
    Kit.due("7: W", peer.windowOf(0), 4095);
  }
}
