/** A place that is used again has nothing of the connection before. */
public final class ReuseTest {
  private static final int P = 0x0A000009;
  private static final String GET = "GET /a.txt HTTP/1.1\r\nHost: h\r\n\r\n";

  public static void main(String[] args) {
    for (int i = 0; i < 9; i++) {
      Kit used = Kit.booted();
      spoil(new Peer(used, P, 4000).open(100, 64), i);
      Kit.due("spoilt " + i + " is gone", used.host.state(0), 0);
      Kit fresh = Kit.booted();
      // A connection that never opened uses up a number of the count, and leaves next to nothing.
      fresh.arrive(Kit.ask(P), 100);
      Peer before = new Peer(fresh, P, 4000);
      before.syn(100, 1000, new byte[0]);
      before.raw(100, Peer.RST, before.seq, 0, "");
      Kit.due("fresh " + i, fresh.host.state(0), 0);
      Kit.due("spoilt " + i, talk(used), talk(fresh));
    }
    Kit.finish();
  }

  /** Leaves a connection in an unusual state, and resets it. */
  private static void spoil(Peer peer, int way) {
    int time = 200;
    switch (way) {
      case 0:
        peer.raw(time, Peer.ACK, peer.seq + 1, peer.ack, "x".repeat(1000));
        break;
      case 1:
        peer.raw(time, Peer.ACK | Peer.FIN, peer.seq + GET.length(), peer.ack, "");
        break;
      case 2:
        peer.send(time, "PUT / HTTP/1.1\r\nHost: h\r\nContent-Length: 50000\r\n\r\n");
        break;
      case 3:
        peer.send(time, GET);
        peer.host.pass(5000);
        break;
      case 4:
        peer.send(time, GET);
        for (int i = 0; i < 4; i++) {
          peer.ackMore(time, 0);
        }
        break;
      case 5:
        peer.send(time, GET);
        break;
      case 6:
        peer.window = 0;
        peer.send(time, GET);
        peer.window = 65535;
        break;
      case 7:
        peer.fin(time);
        break;
      default:
        peer.send(time, "\r\n".repeat(700));
        peer.send(time, "GET /a.txt HTTP/1.0\r\n\r\n" + "z".repeat(1400));
        peer.send(time, "z".repeat(1000));
    }
    peer.raw(Math.max(time, peer.host.now()), Peer.RST, (int) peer.look(5), 0, "");
  }

  /** A plain talk on the same numbers, and all that can be seen of it but the numbers of before. */
  private static String talk(Kit kit) {
    StringBuilder seen = new StringBuilder();
    int start = 20000;
    kit.arrive(Kit.ask(P), start);
    Peer peer = new Peer(kit, P, 4001);
    peer.syn(start, 1000, Kit.hex("02040040"));
    show(peer, seen);
    peer.raw(start + 400, Peer.ACK, peer.seq, peer.ack, "");
    show(peer, seen);
    peer.send(start + 500, "\r");
    show(peer, seen);
    peer.send(start + 500, GET.substring(0, 9));
    show(peer, seen);
    peer.raw(start + 510, Peer.ACK | Peer.RST, peer.seq - 1, 0, "");
    peer.ackMore(start + 520, 0);
    show(peer, seen);
    peer.raw(start + 530, Peer.ACK, peer.seq + 10, peer.ack, "Connection: keep-alive\r\n");
    show(peer, seen);
    peer.send(start + 540, "\r\n\r\n123");
    show(peer, seen);
    for (int i = 0; i < 4; i++) {
      peer.ackMore(start + 600 + i, i == 0 ? 10 : 0);
      show(peer, seen);
    }
    kit.host.pass(start + 9000);
    show(peer, seen);
    return seen.toString();
  }

  private static void show(Peer peer, StringBuilder seen) {
    seen.append('\n').append(peer.host.state(0));
    for (int what = 0; what < 15; what++) {
      seen.append(' ').append(peer.host.look(0, what));
    }
    seen.append(' ').append(peer.data(0).length()).append(' ').append(peer.flags(0)).append(' ').append(peer.windowOf(0));
    seen.append(' ').append(peer.host.time(0));
  }
}
