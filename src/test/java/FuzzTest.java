import java.util.Random;

/** Promise 19 and "no call ever throws": runs by chance, seeded, with a look of our own at every frame sent. */
public final class FuzzTest {
  private static final int CALLS = 512;
  private static final int[] ODD = {0, 1, -1, 15, 16, 31, 32, 80, 1514, 65536, Integer.MAX_VALUE, Integer.MIN_VALUE};

  public static void main(String[] args) {
    for (int seed = 0; seed < 300; seed++) {
      long first = frames(seed);
      Kit.due("13: the same calls give the same answers, seed " + seed, frames(seed), first);
      anyCalls(seed);
    }
    Kit.finish();
  }

  private static int pick(Random random, int... choices) {
    return choices[random.nextInt(choices.length)];
  }

  private static void anyCalls(int seed) {
    Random random = new Random(seed);
    Kit kit = random.nextBoolean() ? new Kit() : Kit.booted();
    WebHost x = kit.host;
    for (int i = 0; i < CALLS; i++) {
      int a = random.nextBoolean() ? pick(random, ODD) : random.nextInt();
      int b = random.nextBoolean() ? pick(random, ODD) : random.nextInt(40);
      switch (random.nextInt(19)) {
        case 0: x.end(a); break;
        case 1: if (random.nextInt(20) == 0) x.install(); break;
        case 2: x.boot(a, b, a + 1, b, a); break;
        case 3: x.arrive(random.nextBoolean() ? a : Math.max(0, x.now())); break;
        case 4: x.pass(random.nextBoolean() ? a : x.now() + random.nextInt(1000)); break;
        case 5: x.length(a); break;
        case 6: x.at(b, a); break;
        case 7: x.time(a); break;
        case 8: x.state(a); break;
        case 9: x.look(b, a); break;
        case 10: x.cached(a); break;
        case 11: x.waiting(); break;
        case 12: x.counted(a); break;
        case 13: x.damage(a, b); break;
        case 14: x.at(a, b); break;
        default: x.feed(a, b, a, b, random.nextInt());
      }
    }
    Kit.due("19: strays of any calls, seed " + seed, x.strays(), 0);
  }

  /** Three peers that mostly keep to the rules; a number made of all that was answered. */
  private static long frames(int seed) {
    Random random = new Random(seed);
    String body = "0123456789".repeat(random.nextInt(200));
    Kit kit = Kit.booted(Kit.image("/index.html", body, "/a.txt", "some text"));
    Peer[] peers = new Peer[3];
    for (int i = 0; i < peers.length; i++) {
      peers[i] = new Peer(kit, i == 2 ? 0x0B000001 : 0x0A000009 + i, 3000 + i);
    }
    long sum = 0;
    int time = 0;
    for (int i = 0; i < 60; i++) {
      time += random.nextInt(8) == 0 ? random.nextInt(70000) : random.nextInt(300);
      int n = step(random, kit, peers[random.nextInt(peers.length)], time);
      sum = sum * 31 + n;
      for (int k = 0; k < Math.min(n, 32); k++) {
        byte[] frame = kit.frame(k);
        Kit.due("19: a frame " + Kit.faultOf(frame) + ", seed " + seed, Kit.faultOf(frame).length(), 0);
        sum = sum * 31 + Kit.check(frame) + kit.host.time(k);
      }
      sum = sum * 31 + numbers(kit, seed);
    }
    Kit.due("19: strays, seed " + seed, kit.host.strays(), 0);
    return sum;
  }

  private static int step(Random random, Kit kit, Peer peer, int time) {
    boolean open = peer.place() >= 0;
    if (open && random.nextInt(10) != 0) {
      peer.ack = (int) peer.look(pick(random, 2, 3, 4, 4, 4)) - (random.nextInt(6) == 0 ? random.nextInt(50) : 0);
      peer.seq = (int) peer.look(5) + (random.nextInt(4) == 0 ? random.nextInt(40) - 20 : 0);
    }
    peer.window = pick(random, 0, 1, 100, 700, 2000, 65535, 65535, 65535);
    int flags = random.nextInt(12) == 0 ? random.nextInt(64) : Peer.ACK | (random.nextInt(12) == 0 ? Peer.FIN : 0);
    switch (random.nextInt(open ? 10 : 5)) {
      case 0: return kit.arrive(Kit.ask(pick(random, peer.ip, Kit.GATE)), time);
      case 1: return kit.host.pass(time);
      case 2: return pieces(random, kit, peer, time);
      case 3: return kit.arrive(spoilt(random, Kit.packet(peer.ip, 1, Kit.echo(1, "xyz"))), time);
      case 4: return open ? peer.raw(time, flags, peer.seq, peer.ack, "") : peer.syn(time, random.nextInt(), mss(random));
      case 5: return peer.raw(time, flags, peer.seq, peer.ack, request(random));
      case 6: return peer.raw(time, flags, peer.seq, peer.ack, request(random).substring(random.nextInt(5)));
      default: return peer.raw(time, Peer.ACK, peer.seq, peer.ack, "");
    }
  }

  private static byte[] mss(Random random) {
    return random.nextBoolean() ? new byte[0] : Kit.join(Kit.hex("0204"), Kit.two(random.nextInt(1600)));
  }

  private static int pieces(Random random, Kit kit, Peer peer, int time) {
    byte[] whole = Kit.echo(random.nextInt(3), "abcdefghijklmnopqrstuvwx".repeat(1 + random.nextInt(3)));
    int from = 8 * random.nextInt(4);
    int to = random.nextBoolean() ? whole.length : from + 8;
    int piece = from / 8 | (to < whole.length ? 0x2000 : 0);
    return kit.arrive(Kit.packet(peer.ip, random.nextInt(2), piece, 1, Kit.slice(whole, from, to)), time);
  }

  private static byte[] spoilt(Random random, byte[] frame) {
    byte[] bytes = Kit.slice(frame, 0, 1 + random.nextInt(frame.length));
    bytes[random.nextInt(bytes.length)] ^= random.nextInt(256);
    return bytes;
  }

  private static String request(Random random) {
    String target = random.nextBoolean() ? "/" : "/a.txt";
    String fields = random.nextInt(4) == 0 ? "Connection: close\r\n" : random.nextInt(4) == 0 ? "Content-Length: 30\r\n" : "";
    String one = (random.nextInt(4) == 0 ? "HEAD " : "GET ") + target + " HTTP/1.1\r\nHost: h\r\n" + fields + "\r\n";
    return one.repeat(1 + random.nextInt(3));
  }

  /** What must hold of the numbers of every connection. */
  private static long numbers(Kit kit, int seed) {
    long sum = 0;
    for (int place = 0; place < 3; place++) {
      int state = kit.host.state(place);
      for (int what = 0; what < 15; what++) {
        sum = sum * 31 + kit.host.look(place, what);
      }
      if (state == 0) {
        continue;
      }
      int una = (int) kit.host.look(place, 2);
      int at = (int) kit.host.look(place, 3);
      int max = (int) kit.host.look(place, 4);
      Kit.due("UNA, AT, MAX in order, seed " + seed, at - una >= 0 && max - at >= 0, true);
      Kit.due("HELD, seed " + seed, kit.host.look(place, 11) >= 0 && kit.host.look(place, 11) <= 4096, true);
      Kit.due("what is left, seed " + seed, kit.host.look(place, 12) < 70000, true);
      Kit.due("RTO, seed " + seed, kit.host.look(place, 9) >= 1000 && kit.host.look(place, 9) <= 60000, true);
      Kit.due("CWND, seed " + seed, kit.host.look(place, 7) >= kit.host.look(place, 10), true);
    }
    return sum;
  }
}
