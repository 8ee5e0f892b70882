/** Point 9 of the terms: what happens in which order when time goes on. */
public final class TimeEdges {
  private static final int P = 0x0A000009;
  private static final String GET = "GET /a.txt HTTP/1.1\r\nHost: h\r\n\r\n";

  public static void main(String[] args) {
    atItsOwnTime();
    earliestFirst();
    hopsInTheirOrder();
    asksBeforeConnections();
    dropBeforeConnections();
    datagramsInTheirOrder();
    connectionsByPlace();
    thenTheFrame();
    oneStepOrMany();
    Kit.finish();
  }

  private static byte[] echo(int ip) {
    return Kit.packet(ip, 1, Kit.echo(1, "x"));
  }

  private static void atItsOwnTime() {
    Kit kit = Kit.booted();
    kit.arrive(echo(P), 7);
    Kit.due("9: two ASKs", kit.host.pass(500000), 2);
    Kit.due("9: at 2007", kit.host.time(0), 2007);
    Kit.due("9: at 1007", kit.host.time(1), 1007);
    Kit.due("9: at 7", kit.host.time(2), 7);
    Kit.due("8: now", kit.host.now(), 500000);
  }

  /** The second place is due at 1005, an ASK at 1006, the first place at 1007. */
  private static void earliestFirst() {
    Kit kit = Kit.booted();
    Peer first = new Peer(kit, P, 5000).open(0);
    Peer second = new Peer(kit, P, 5001).open(0);
    second.send(5, GET);
    kit.arrive(echo(P + 1), 6);
    first.send(7, GET);
    Kit.due("9: all three", kit.host.pass(1007), 3);
    Kit.due("9: the second place", Kit.two(kit.frame(2), 36), 5001);
    Kit.due("12: when", kit.host.time(2), 1005);
    Kit.due("9: the ASK", Kit.two(kit.frame(1), 12), 0x0806);
    Kit.due("12: when", kit.host.time(1), 1006);
    Kit.due("9: the first place", Kit.two(kit.frame(0), 36), 5000);
    Kit.due("12: when", kit.host.time(0), 1007);
    // None before its time: the same in steps.
    Kit.due("9: up to one before", kit.host.pass(3004), 1);
    Kit.due("9: the ASK at 2006", kit.host.time(0), 2006);
    Kit.due("9: the second place", kit.host.pass(3005), 1);
    Kit.due("9: what waited is dropped, no frame", kit.host.pass(3006), 0);
    Kit.due("9: the first place", kit.host.pass(3007), 1);
  }

  private static void hopsInTheirOrder() {
    Kit kit = Kit.booted();
    int[] hops = {P + 3, P, P + 5, P + 1};
    for (int hop : hops) {
      kit.arrive(echo(hop), 10);
    }
    kit.arrive(echo(P), 500);
    kit.arrive(echo(P + 3), 600);
    kit.host.pass(1010);
    for (int i = 0; i < 4; i++) {
      Kit.due("9: as first waited for", Kit.four(kit.frame(3 - i), 38), hops[i]);
    }
    // One that is told, and waited for anew at the same time, is the last then.
    kit.arrive(Kit.arp(Kit.MAC, 2, Kit.macOf(P), P, Kit.MAC, Kit.IP), 1500);
    Kit.due("9: three are left", kit.host.pass(2010), 3);
    Kit.due("9: the first", Kit.four(kit.frame(2), 38), P + 3);
    Kit.due("9: the second", Kit.four(kit.frame(1), 38), P + 5);
    Kit.due("9: the third", Kit.four(kit.frame(0), 38), P + 1);
  }

  private static void asksBeforeConnections() {
    Kit kit = Kit.booted();
    Peer peer = new Peer(kit, P, 5000).open(0);
    peer.send(10, GET);
    kit.arrive(echo(P + 1), 10);
    Kit.due("9: both at 1010", kit.host.pass(1010), 2);
    Kit.due("9: the ASK first", Kit.two(kit.frame(1), 12), 0x0806);
    Kit.due("9: then the connection", Kit.two(kit.frame(0), 12), 0x0800);
  }

  /** SYN ACK waits for its hop: at 3000 it is dropped first, and then sent again, so the hop is asked for anew. */
  private static void dropBeforeConnections() {
    Kit kit = Kit.booted();
    Peer peer = new Peer(kit, P, 5000);
    Kit.due("9: an ASK at 0", peer.syn(0, 1000, new byte[0]), 1);
    Kit.due("9: ASKs at 1000 and 2000", kit.host.pass(2999), 2);
    Kit.due("9: an ASK at 3000", kit.host.pass(3000), 1);
    Kit.due("16: it waits", kit.host.waiting(), 1);
    Kit.due("9: the next at 4000", kit.host.pass(3999), 0);
    Kit.due("9: it is", kit.host.pass(4000), 1);
    Kit.due("3: told", kit.arrive(Kit.tell(P), 4001), 1);
    Kit.due("4: the third SYN ACK", Kit.two(kit.frame(0), 18), 3);
  }

  private static void datagramsInTheirOrder() {
    Kit kit = Kit.booted();
    kit.arrive(Kit.tell(P), 0);
    byte[] whole = Kit.echo(1, "abcdefgh");
    for (int id = 1; id <= 4; id++) {
      kit.arrive(Kit.packet(P, id, 0x2000, 1, Kit.slice(whole, 0, 8)), 10 * id);
    }
    // The first is gone at 15010, and leaves room for one more.
    Kit.due("9: before, there is no room", kit.arrive(Kit.packet(P, 9, 0x2000, 1, Kit.slice(whole, 0, 8)), 15009), 0);
    Kit.due("9: for a fifth", kit.arrive(Kit.packet(P, 9, 1, 1, Kit.slice(whole, 8, 16)), 15009), 0);
    Kit.due("9: at 15010 there is", kit.arrive(Kit.packet(P, 9, 0x2000, 1, Kit.slice(whole, 0, 8)), 15010), 0);
    Kit.due("9: and it becomes whole", kit.arrive(Kit.packet(P, 9, 1, 1, Kit.slice(whole, 8, 16)), 15010), 1);
    Kit.due("9: the second is there up to 15019", kit.arrive(Kit.packet(P, 2, 1, 1, Kit.slice(whole, 8, 16)), 15019), 1);
    Kit.due("9: the third is gone at 15030", kit.arrive(Kit.packet(P, 3, 1, 1, Kit.slice(whole, 8, 16)), 15030), 0);
    Kit.due("9: the fourth is not", kit.arrive(Kit.packet(P, 4, 1, 1, Kit.slice(whole, 8, 16)), 15030), 1);
  }

  private static void connectionsByPlace() {
    Kit kit = Kit.booted();
    Peer[] peers = new Peer[16];
    for (int i = 0; i < 16; i++) {
      peers[i] = new Peer(kit, P, 5000 + i).open(0);
    }
    for (int i = 0; i < 16; i++) {
      peers[(7 * i + 3) % 16].send(10, GET);
    }
    Kit.due("9: all at 1010", kit.host.pass(1010), 16);
    for (int i = 0; i < 16; i++) {
      Kit.due("9: place " + i, Kit.two(kit.frame(15 - i), 36), 5000 + i);
    }
    // A timer and a life timer of two places at the same time: by place still.
    kit = Kit.booted();
    Peer idle = new Peer(kit, P, 5000).open(10);
    Peer busy = new Peer(kit, P, 5001).open(10);
    busy.send(29010, GET);
    Kit.due("9: both at 30010", kit.host.pass(30010), 2);
    Kit.due("9: the life timer of the first place", idle.flags(1), 17);
    Kit.due("9: the timer of the second", Kit.two(kit.frame(0), 36), 5001);
    Kit.due("12: at one time", kit.host.time(0) + kit.host.time(1), 60020);
  }

  private static void thenTheFrame() {
    Kit kit = Kit.booted();
    Peer peer = new Peer(kit, P, 5000).open(0);
    peer.send(10, GET);
    int n = peer.data(0).length();
    Kit.due("9: an acknowledgement at the timer's time comes too late", peer.ackMore(1010, n), 1);
    Kit.due("17: sent again", kit.host.counted(3), 1);
    Kit.due("14: and then acknowledged", peer.look(2), peer.ack);
    peer.send(2000, GET);
    Kit.due("9: one before it comes in time", peer.ackMore(3999, n), 0);
    Kit.due("9: an end of life is before a frame", peer.send(33999, "x"), 2);
    Kit.due("9: the FIN", peer.flags(1), 17);
    Kit.due("9: then the frame, and its ACK", peer.flags(0), 16);
    Kit.due("13: FIN WAIT 1", peer.state(), 3);
  }

  /** Many things under way; time goes on in one step here, and in steps of a millisecond or seven there. */
  private static Kit underWay() {
    Kit kit = Kit.booted();
    Peer first = new Peer(kit, P, 5000).open(0);
    Peer second = new Peer(kit, P + 1, 5001).open(3);
    new Peer(kit, P + 2, 5002).syn(5, 77, new byte[0]);
    new Peer(kit, 0x0B000001, 5003).syn(5, 78, new byte[0]);
    first.send(10, GET);
    second.window = 0;
    second.send(20, GET);
    kit.arrive(echo(P + 9), 30);
    kit.arrive(Kit.packet(P, 5, 0x2000, 1, new byte[8]), 40);
    return kit;
  }

  private static void oneStepOrMany() {
    Kit one = underWay();
    Kit many = underWay();
    Kit sevens = underWay();
    one.host.pass(70000);
    for (int time = 41; time <= 70000; time++) {
      many.host.pass(time);
    }
    for (int time = 47; time < 70000; time += 7) {
      sevens.host.pass(time);
    }
    sevens.host.pass(70000);
    Kit.due("9: the same in steps of one", many.seen(), one.seen());
    Kit.due("9: the same in steps of seven", sevens.seen(), one.seen());
  }
}
