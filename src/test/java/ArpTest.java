/** Promises 15 and 16 and the terms of ARP: the cache, waiting for a hop, asking again. */
public final class ArpTest {
  private static final int P = 0x0A000009;

  public static void main(String[] args) {
    tells();
    learns();
    full();
    expires();
    waits();
    release();
    manyHops();
    Kit.finish();
  }

  private static byte[] echoFrom(int ip, String data) {
    return Kit.packet(ip, 1, Kit.echo(1, data));
  }

  private static void tells() {
    Kit kit = Kit.booted();
    byte[] ask = Kit.ask(P);
    ask[11] = 0x55; // the frame's sender is another one than the ARP packet's
    Kit.due("3: a TELL", kit.arrive(ask, 1), 1);
    Kit.due("3: its bytes", Kit.hex(kit.frame(0)), "02000a000009" + "020000000001" + "0806" + "000108000604"
        + "0002" + "020000000001" + "0a000002" + "02000a000009" + "0a000009" + "00".repeat(18));
    byte[] strange = Kit.ask(P);
    strange[21] = 3;
    Kit.due("3: operation 3", kit.arrive(strange, 1), 0);
    for (int i = 14; i < 20; i++) {
      byte[] bad = Kit.ask(P + 1);
      bad[i] ^= 1;
      Kit.due("3: byte " + i, kit.arrive(bad, 1), 0);
    }
    Kit.due("15: nothing learnt of these", kit.host.cached(P + 1), false);
    Kit.due("3: an ASK for another", kit.arrive(Kit.arp(Kit.ALL, 1, Kit.macOf(P), P, new byte[6], P + 5), 1), 0);
    Kit.due("3: an ASK with our own number", kit.arrive(Kit.ask(Kit.IP), 1), 1);
    Kit.due("15: which is not learnt", kit.host.cached(Kit.IP), false);
    Kit.due("3: a TELL is not answered", kit.arrive(Kit.tell(P + 2), 1), 0);
    Kit.due("15: but learnt", kit.host.cached(P + 2), true);
  }

  private static void learns() {
    Kit kit = Kit.booted();
    WebHost x = kit.host;
    kit.arrive(Kit.arp(Kit.ALL, 1, Kit.macOf(P), P, new byte[6], P + 5), 1);
    Kit.due("15: not for us, not learnt", x.cached(P), false);
    kit.arrive(Kit.tell(P), 2);
    Kit.due("15: learnt", x.cached(P), true);
    kit.arrive(Kit.arp(Kit.ALL, 1, Kit.hex("0a0b0c0d0e0f"), P, new byte[6], P + 5), 3);
    Kit.due("3: goes out", kit.arrive(echoFrom(P, "x"), 4), 1);
    Kit.due("3: an entry gets a new address from any packet", Kit.hex(Kit.slice(kit.frame(0), 0, 14)),
        "0a0b0c0d0e0f" + "020000000001" + "0800");
  }

  private static void full() {
    Kit kit = Kit.booted();
    WebHost x = kit.host;
    for (int i = 0; i < 16; i++) {
      kit.arrive(Kit.tell(P + i), i < 3 ? 5 : 10);
    }
    kit.arrive(Kit.tell(P), 11);
    kit.arrive(Kit.tell(P + 50), 12);
    Kit.due("3: the oldest goes, the first of two", x.cached(P + 1), false);
    Kit.due("3: not the second", x.cached(P + 2), true);
    Kit.due("3: not the one told anew", x.cached(P), true);
    Kit.due("3: the new one", x.cached(P + 50), true);
    kit.arrive(Kit.tell(P + 51), 13);
    Kit.due("3: then the next oldest", x.cached(P + 2), false);
    for (int i = 3; i < 16; i++) {
      Kit.due("3: others stay", x.cached(P + i), true);
    }
    kit = Kit.booted();
    for (int i = 0; i < 17; i++) {
      kit.arrive(Kit.tell(P + i), 5);
    }
    Kit.due("3: of all at one time the first goes", kit.host.cached(P), false);
    Kit.due("3: and not the second", kit.host.cached(P + 1), true);
  }

  private static void expires() {
    Kit kit = Kit.booted();
    WebHost x = kit.host;
    kit.arrive(Kit.tell(P), 100);
    x.pass(60099);
    Kit.due("15: counts", x.cached(P), true);
    Kit.due("3: so an echo goes out", kit.arrive(echoFrom(P, "x"), 60099), 1);
    Kit.due("3: as IP", Kit.two(kit.frame(0), 12), 0x0800);
    x.pass(60100);
    Kit.due("15: counts no more", x.cached(P), false);
    Kit.due("3: so it is asked for", kit.arrive(echoFrom(P, "x"), 60100), 1);
    Kit.due("3: with an ASK", Kit.two(kit.frame(0), 20), 1);
    // It is still in the cache: a packet for another gives it an address and a time.
    Kit.due("3: what waits goes", kit.arrive(Kit.arp(Kit.ALL, 2, Kit.macOf(P), P, new byte[6], P + 5), 60200), 1);
    Kit.due("15: counts again", x.cached(P), true);
    Kit.due("16: nothing waits", x.waiting(), 0);
  }

  private static void waits() {
    Kit kit = Kit.booted();
    WebHost x = kit.host;
    Kit.due("3: an ASK", kit.arrive(echoFrom(P, "one"), 50), 1);
    Kit.due("3: its bytes", Kit.hex(kit.frame(0)), "ffffffffffff" + "020000000001" + "0806" + "000108000604"
        + "0001" + "020000000001" + "0a000002" + "000000000000" + "0a000009" + "00".repeat(18));
    Kit.due("16: one waits", x.waiting(), 1);
    Kit.due("3: a newer packet, no ASK", kit.arrive(echoFrom(P, "two"), 900), 0);
    Kit.due("16: still one", x.waiting(), 1);
    Kit.due("3: no ASK yet", x.pass(1049), 0);
    Kit.due("3: behind 1000", x.pass(1050), 1);
    Kit.due("3: behind 2000", x.pass(3049), 1);
    Kit.due("12: at its own time", x.time(0), 2050);
    Kit.due("16: still waiting", x.waiting(), 1);
    Kit.due("3: behind 3000", x.pass(3050), 0);
    Kit.due("16: dropped", x.waiting(), 0);
    Kit.due("3: gone for good", kit.arrive(Kit.tell(P), 3060), 0);
  }

  private static void release() {
    Kit kit = Kit.booted();
    WebHost x = kit.host;
    kit.arrive(echoFrom(P, "one"), 50);
    kit.arrive(echoFrom(P, "two"), 60);
    Kit.due("3: what waits, then a TELL", kit.arrive(Kit.ask(P), 70), 2);
    Kit.due("3: the TELL is the latest", Kit.two(kit.frame(0), 12), 0x0806);
    byte[] frame = kit.frame(1);
    Kit.due("3: the newer packet", Kit.latin(Kit.slice(frame, 42, 45)), "two");
    Kit.due("4: identification of the second packet", Kit.two(frame, 18), 2);
    Kit.due("3: its time", x.time(1), 70);
    Kit.due("3: its address", Kit.hex(Kit.slice(frame, 0, 6)), "02000a000009");
    Kit.due("16: nothing waits", x.waiting(), 0);
    Kit.due("3: nothing is asked any more", x.pass(10000), 0);
    // From outside of the net the gateway is the hop.
    Kit.due("3: an ASK", kit.arrive(echoFrom(0x0B000009, "far"), 10000), 1);
    Kit.due("3: for the gateway", Kit.four(kit.frame(0), 38), Kit.GATE);
    Kit.due("3: another number, the same hop", kit.arrive(echoFrom(0x0C000009, "far2"), 10001), 0);
    Kit.due("16: one", x.waiting(), 1);
    Kit.due("3: the gateway tells", kit.arrive(Kit.tell(Kit.GATE), 10002), 1);
    Kit.due("3: to the number", Kit.four(kit.frame(0), 30), 0x0C000009);
    Kit.due("3: at the gateway's address", Kit.hex(Kit.slice(kit.frame(0), 0, 6)), "02000a000001");
    Kit.due("3: a TELL from far gives no hop", kit.arrive(Kit.tell(0x0D000001), 10003), 0);
    Kit.due("3: the net's own last number is a hop", kit.arrive(echoFrom(0x0A0000FF, "x"), 10004), 1);
    Kit.due("3: asked for itself", Kit.four(kit.frame(0), 38), 0x0A0000FF);
  }

  private static void manyHops() {
    Kit kit = Kit.booted();
    WebHost x = kit.host;
    for (int i = 0; i < 8; i++) {
      Kit.due("3: an ASK each", kit.arrive(echoFrom(P + i, "x"), 10), 1);
    }
    Kit.due("16: eight", x.waiting(), 8);
    Kit.due("3: no ninth", kit.arrive(echoFrom(P + 8, "x"), 11), 0);
    Kit.due("16: still eight", x.waiting(), 8);
    Kit.due("3: one goes", kit.arrive(Kit.tell(P + 3), 12), 1);
    Kit.due("16: seven", x.waiting(), 7);
    Kit.due("3: now the ninth", kit.arrive(echoFrom(P + 8, "x"), 13), 1);
    Kit.due("10: the dropped one used its identification", kit.arrive(Kit.tell(P + 8), 14), 1);
    Kit.due("10: so this is", Kit.two(kit.frame(0), 18), 10);
    Kit.due("9: all at their time, in order", x.pass(1010), 7);
    Kit.due("9: the last", Kit.four(kit.frame(0), 38), P + 7);
    Kit.due("9: the first", Kit.four(kit.frame(6), 38), P);
    Kit.due("9: the fourth", Kit.four(kit.frame(3), 38), P + 4);
    Kit.due("9: again", x.pass(2010), 7);
    Kit.due("9: dropped", x.pass(3010), 0);
    Kit.due("16: none", x.waiting(), 0);
  }
}
