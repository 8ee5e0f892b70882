/** Point 3 of the terms: the boundaries of ARP, the cache, and waiting for a hop. */
public final class ArpEdges {
  private static final int P = 0x0A000009;

  public static void main(String[] args) {
    atLeast28Bytes();
    fixedFields();
    operations();
    anEntryGetsTheAddress();
    putIntoTheCache();
    atMost16();
    oldestOfTheFirst();
    expiredStillIn();
    countsForLessThan60000();
    hopInOurNet();
    oneForEachHop();
    atMostEightHops();
    ninthUsedItsIdentification();
    askedAgain();
    newerLeavesTheTimes();
    droppedBehind3000();
    sentAtOnce();
    notWaitedForAnyMore();
    Kit.finish();
  }

  private static byte[] echo(int ip, String data) {
    return Kit.packet(ip, 1, Kit.echo(1, data));
  }

  private static void atLeast28Bytes() {
    Kit kit = Kit.booted();
    Kit.due("3: 27 bytes", kit.arrive(Kit.slice(Kit.ask(P), 0, 41), 1), 0);
    Kit.due("3: are dropped", kit.host.cached(P), false);
    Kit.due("3: 28 bytes", kit.arrive(Kit.ask(P), 1), 1);
    Kit.due("3: and what is behind", kit.arrive(Kit.join(Kit.ask(P + 1), new byte[1472]), 1), 1);
    Kit.due("3: is not sent back", kit.host.length(0), 60);
  }

  private static void fixedFields() {
    Kit kit = Kit.booted();
    for (int i = 14; i < 20; i++) {
      for (int bit = 0; bit < 8; bit++) {
        byte[] bad = Kit.ask(P);
        bad[i] ^= 1 << bit;
        Kit.due("3: byte " + i + ", bit " + bit, kit.arrive(bad, 1), 0);
      }
    }
    Kit.due("3: dropped", kit.host.cached(P), false);
  }

  private static void operations() {
    for (int operation : new int[] {0, 1, 2, 3, 0x0100, 0x0101, 0x0201, 0xFFFF}) {
      Kit kit = Kit.booted();
      byte[] frame = Kit.arp(Kit.ALL, operation, Kit.macOf(P), P, new byte[6], Kit.IP);
      Kit.due("3: operation " + operation, kit.arrive(frame, 1), operation == 1 ? 1 : 0);
      Kit.due("3: learnt of " + operation, kit.host.cached(P), operation == 1 || operation == 2);
    }
  }

  private static void anEntryGetsTheAddress() {
    Kit kit = Kit.booted();
    kit.arrive(Kit.tell(P), 0);
    byte[] other = Kit.arp(Kit.ALL, 2, Kit.hex("0a0b0c0d0e0f"), P, new byte[6], P + 1);
    Kit.due("3: one for another number", kit.arrive(other, 59999), 0);
    kit.host.pass(60000);
    Kit.due("3: gives it the time", kit.host.cached(P), true);
    kit.arrive(echo(P, "x"), 119998);
    Kit.due("3: and the address", Kit.hex(Kit.slice(kit.frame(0), 0, 6)), "0a0b0c0d0e0f");
    Kit.due("3: counts", kit.host.cached(P), true);
    kit.host.pass(119999);
    Kit.due("3: counts no more", kit.host.cached(P), false);
  }

  private static void putIntoTheCache() {
    Kit kit = Kit.booted();
    Kit.due("3: for the number before ours", kit.arrive(Kit.arp(Kit.ALL, 1, Kit.macOf(P), P, new byte[6], Kit.IP - 1), 1), 0);
    Kit.due("3: for the number behind ours", kit.arrive(Kit.arp(Kit.ALL, 1, Kit.macOf(P), P, new byte[6], Kit.IP + 1), 1), 0);
    Kit.due("3: not put into it", kit.host.cached(P), false);
    Kit.due("3: from our own number, it is told", kit.arrive(Kit.ask(Kit.IP), 1), 1);
    Kit.due("3: but not put into it", kit.host.cached(Kit.IP), false);
    kit.arrive(Kit.ask(P), 1);
    Kit.due("3: put into it", kit.host.cached(P), true);
    kit.arrive(Kit.ask(0), 1);
    Kit.due("3: 0 too", kit.host.cached(0), true);
    kit.arrive(Kit.ask(-1), 1);
    Kit.due("3: all ones too", kit.host.cached(-1), true);
  }

  private static void atMost16() {
    Kit kit = Kit.booted();
    for (int i = 0; i < 16; i++) {
      kit.arrive(Kit.tell(P + i), 100 + i);
    }
    for (int i = 0; i < 16; i++) {
      Kit.due("3: 16 entries", kit.host.cached(P + i), true);
    }
    kit.arrive(Kit.tell(P), 200);
    kit.arrive(Kit.tell(P + 2), 201);
    kit.arrive(Kit.tell(P + 16), 202);
    Kit.due("3: the one with the oldest time", kit.host.cached(P + 1), false);
    kit.arrive(Kit.tell(P + 17), 203);
    Kit.due("3: the next one with it", kit.host.cached(P + 3), false);
    int there = 0;
    for (int i = 0; i < 20; i++) {
      there += kit.host.cached(P + i) ? 1 : 0;
    }
    Kit.due("3: 16 in all", there, 16);
  }

  private static void oldestOfTheFirst() {
    Kit kit = Kit.booted();
    for (int i = 0; i < 16; i++) {
      kit.arrive(Kit.tell(P + i), 5);
    }
    kit.arrive(Kit.tell(P + 16), 5);
    Kit.due("3: of all at one time the first", kit.host.cached(P), false);
    kit.arrive(Kit.tell(P + 17), 5);
    Kit.due("3: whose place the new one had, with the same time", kit.host.cached(P + 16), false);
    Kit.due("3: so the second stays", kit.host.cached(P + 1), true);
    kit.arrive(Kit.tell(P + 17), 6);
    kit.arrive(Kit.tell(P + 18), 6);
    Kit.due("3: now the second is the oldest", kit.host.cached(P + 1), false);
    Kit.due("3: and the third stays", kit.host.cached(P + 2), true);
    for (int i = 3; i < 16; i++) {
      kit.arrive(Kit.tell(P + i), 7);
    }
    kit.arrive(Kit.tell(P + 19), 8);
    Kit.due("3: the oldest in the middle", kit.host.cached(P + 2), false);
    kit.arrive(Kit.tell(P + 17), 9);
    kit.arrive(Kit.tell(P + 18), 9);
    kit.arrive(Kit.tell(P + 19), 9);
    for (int i = 3; i < 15; i++) {
      kit.arrive(Kit.tell(P + i), 9);
    }
    kit.arrive(Kit.tell(P + 20), 10);
    Kit.due("3: the oldest at the end", kit.host.cached(P + 15), false);
  }

  /** An entry that does not count any more is still in the cache, and in the order of the oldest. */
  private static void expiredStillIn() {
    Kit kit = Kit.booted();
    kit.arrive(Kit.tell(P), 0);
    kit.host.pass(70000);
    Kit.due("3: counts no more", kit.host.cached(P), false);
    kit.arrive(Kit.arp(Kit.ALL, 2, Kit.macOf(P), P, new byte[6], P + 1), 70000);
    Kit.due("3: gets the address and the time", kit.host.cached(P), true);
    Kit.due("3: one that is in it no more does not", kit.host.cached(P + 1), false);
  }

  private static void countsForLessThan60000() {
    Kit kit = Kit.booted();
    kit.arrive(Kit.tell(P), 1000);
    kit.arrive(echo(P, "x"), 60999);
    Kit.due("3: 59999 behind its time the frame goes to it", Kit.hex(Kit.slice(kit.frame(0), 0, 14)),
        Kit.hex(Kit.join(Kit.macOf(P), Kit.MAC, Kit.two(0x0800))));
    Kit.due("16: none waits", kit.host.waiting(), 0);
    kit.arrive(echo(P, "x"), 61000);
    Kit.due("3: 60000 behind it is asked for", Kit.hex(Kit.slice(kit.frame(0), 0, 14)),
        Kit.hex(Kit.join(Kit.ALL, Kit.MAC, Kit.two(0x0806))));
    Kit.due("16: one waits", kit.host.waiting(), 1);
  }

  private static void hop(int bits, int number, boolean inside) {
    Kit kit = new Kit();
    kit.put(Kit.image());
    kit.host.install();
    int gateway = Kit.IP ^ 1;
    Kit.due("5: boot", kit.host.boot(Kit.IP, bits, gateway, 0x0200, 1), 0);
    Kit.due("3: an ASK", kit.arrive(echo(number, "x"), 1), 1);
    Kit.due("3: hop of " + Integer.toHexString(number) + " with " + bits, Kit.four(kit.frame(0), 38), inside ? number : gateway);
  }

  private static void hopInOurNet() {
    hop(24, 0x0A000000, true);
    hop(24, 0x0A0000FF, true);
    hop(24, 0x09FFFFFF, false);
    hop(24, 0x0A000100, false);
    hop(30, 0x0A000000, true);
    hop(30, 0x0A000003, true);
    hop(30, 0x0A000004, false);
    hop(30, 0x09FFFFFF, false);
    hop(8, 0x0A000000, true);
    hop(8, 0x0AFFFFFF, true);
    hop(8, 0x0B000000, false);
    hop(8, 0x09FFFFFF, false);
  }

  private static void oneForEachHop() {
    Kit kit = Kit.booted();
    Kit.due("3: the first is asked for", kit.arrive(echo(P, "one"), 1), 1);
    Kit.due("3: the second is not", kit.arrive(echo(P, "two"), 2), 0);
    Kit.due("3: a longer one is not", kit.arrive(echo(P, "three, and longer"), 3), 0);
    Kit.due("3: the fourth is not", kit.arrive(echo(P, "four"), 4), 0);
    Kit.due("16: one", kit.host.waiting(), 1);
    Kit.due("3: one is sent", kit.arrive(Kit.tell(P), 5), 1);
    Kit.due("3: the newest", Kit.latin(Kit.slice(kit.frame(0), 42, 46)), "four");
    Kit.due("3: no more of it", Kit.two(kit.frame(0), 16), 32);
  }

  private static void atMostEightHops() {
    Kit kit = Kit.booted();
    for (int i = 0; i < 8; i++) {
      Kit.due("3: hop " + i, kit.arrive(echo(P + i, "x"), 1), 1);
    }
    Kit.due("3: the ninth is dropped, without an ASK", kit.arrive(echo(P + 8, "x"), 1), 0);
    Kit.due("16: eight", kit.host.waiting(), 8);
    Kit.due("3: a newer packet for the eighth is not", kit.arrive(echo(P + 7, "newer"), 1), 0);
    Kit.due("3: the eighth", kit.arrive(Kit.tell(P + 7), 1), 1);
    Kit.due("3: has the newer one", Kit.latin(Kit.slice(kit.frame(0), 42, 47)), "newer");
    Kit.due("3: the ninth is gone for good", kit.arrive(Kit.tell(P + 8), 1), 0);
    Kit.due("16: seven", kit.host.waiting(), 7);
    Kit.due("3: now there is room", kit.arrive(echo(P + 9, "x"), 1), 1);
    Kit.due("16: eight", kit.host.waiting(), 8);
    Kit.due("3: one in the cache needs none", kit.arrive(echo(P + 8, "x"), 1), 1);
  }

  private static void ninthUsedItsIdentification() {
    Kit kit = Kit.booted();
    for (int i = 0; i < 9; i++) {
      kit.arrive(echo(P + i, "x"), 1);
    }
    for (int i = 0; i < 8; i++) {
      kit.arrive(Kit.tell(P + i), 2);
      Kit.due("4: given when it was made", Kit.two(kit.frame(0), 18), i + 1);
    }
    kit.arrive(echo(P, "x"), 3);
    Kit.due("10: the ninth has used its own", Kit.two(kit.frame(0), 18), 10);
  }

  private static void askedAgain() {
    Kit kit = Kit.booted();
    kit.arrive(echo(P, "x"), 10);
    String ask = Kit.hex(kit.frame(0));
    Kit.due("3: 999 behind", kit.host.pass(1009), 0);
    Kit.due("3: 1000 behind", kit.host.pass(1010), 1);
    Kit.due("3: the same ASK", Kit.hex(kit.frame(0)), ask);
    Kit.due("3: 1999 behind", kit.host.pass(2009), 0);
    Kit.due("3: 2000 behind", kit.host.pass(2010), 1);
    Kit.due("3: the same ASK", Kit.hex(kit.frame(0)), ask);
    Kit.due("3: 2999 behind", kit.host.pass(3009), 0);
    Kit.due("16: it waits", kit.host.waiting(), 1);
    Kit.due("3: 3000 behind, no ASK", kit.host.pass(3010), 0);
    Kit.due("16: it is dropped", kit.host.waiting(), 0);
    Kit.due("3: nor later", kit.host.pass(100000), 0);
  }

  private static void newerLeavesTheTimes() {
    Kit kit = Kit.booted();
    kit.arrive(echo(P, "x"), 10);
    kit.arrive(echo(P, "y"), 500);
    Kit.due("10: 1000 behind the first", kit.host.pass(1010), 1);
    kit.arrive(echo(P, "z"), 1500);
    Kit.due("10: 2000 behind the first", kit.host.pass(2010), 1);
    Kit.due("10: a newest", kit.arrive(echo(P, "z"), 3009), 0);
    kit.host.pass(3010);
    Kit.due("10: dropped 3000 behind the first", kit.host.waiting(), 0);
    Kit.due("3: asked for anew then", kit.arrive(echo(P, "w"), 3010), 1);
    Kit.due("3: from there", kit.host.pass(4009), 0);
    Kit.due("3: on", kit.host.pass(4010), 1);
  }

  private static void droppedBehind3000() {
    Kit kit = Kit.booted();
    kit.arrive(echo(P, "x"), 10);
    Kit.due("3: told 2999 behind: two ASKs and the packet", kit.arrive(Kit.tell(P), 3009), 3);
    Kit.due("3: it is sent then", kit.host.time(0), 3009);
    kit = Kit.booted();
    kit.arrive(echo(P, "x"), 10);
    Kit.due("3: told 3000 behind: two ASKs", kit.arrive(Kit.tell(P), 3010), 2);
    Kit.due("3: it was dropped before", kit.host.time(0), 2010);
  }

  private static void sentAtOnce() {
    Kit kit = Kit.booted();
    kit.arrive(echo(P, "x"), 10);
    Kit.due("3: a packet for another number tells too little", kit.arrive(Kit.arp(Kit.ALL, 1, Kit.macOf(P), P, new byte[6], P + 1), 11), 0);
    Kit.due("16: it waits", kit.host.waiting(), 1);
    Kit.due("3: an ASK of the hop: the packet and a TELL", kit.arrive(Kit.ask(P), 12), 2);
    Kit.due("3: the packet first", Kit.two(kit.frame(1), 12), 0x0800);
    Kit.due("3: to the address", Kit.hex(Kit.slice(kit.frame(1), 0, 6)), Kit.hex(Kit.macOf(P)));
    Kit.due("3: the TELL behind it", Kit.two(kit.frame(0), 20), 2);
    Kit.due("12: at that time", kit.host.time(1), 12);
    // An entry in the cache that does not count any more is enough for one for another number.
    kit.host.pass(60012);
    kit.arrive(echo(P, "y"), 60012);
    Kit.due("16: it waits", kit.host.waiting(), 1);
    Kit.due("3: sent", kit.arrive(Kit.arp(Kit.ALL, 1, Kit.macOf(P), P, new byte[6], P + 1), 60013), 1);
    Kit.due("16: none", kit.host.waiting(), 0);
  }

  private static void notWaitedForAnyMore() {
    Kit kit = Kit.booted();
    kit.arrive(echo(P, "x"), 10);
    kit.arrive(echo(P + 1, "x"), 10);
    kit.arrive(Kit.tell(P), 20);
    Kit.due("3: told again, nothing", kit.arrive(Kit.tell(P), 21), 0);
    Kit.due("3: only the other one is asked for", kit.host.pass(1010), 1);
    Kit.due("3: which", Kit.four(kit.frame(0), 38), P + 1);
    kit.host.pass(60021);
    Kit.due("3: waited for anew", kit.arrive(echo(P, "x"), 60021), 1);
    Kit.due("3: with times of its own", kit.host.pass(61020), 0);
    Kit.due("3: from then on", kit.host.pass(61021), 1);
  }
}
