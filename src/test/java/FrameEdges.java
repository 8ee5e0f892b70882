/** Point 2 of the terms, and the sum of 16 bits: the boundaries of frames. */
public final class FrameEdges {
  private static final int P = 0x0A000009;

  public static void main(String[] args) {
    fewerThan14();
    atMost1514();
    addresses();
    kinds();
    atLeast60();
    everyLength();
    aByteAlone();
    carryPutRound();
    latest32();
    Kit.finish();
  }

  private static void fewerThan14() {
    Kit kit = Kit.booted();
    byte[] ask = Kit.ask(P);
    for (int n = 1; n < 42; n++) {
      Kit.due("2: " + n + " bytes of an ASK", kit.arrive(Kit.slice(ask, 0, n), 1), 0);
    }
    Kit.due("2: nothing is learnt of these", kit.host.cached(P), false);
    Kit.due("10: all were counted", kit.host.counted(0), 41);
    Kit.due("2: the whole", kit.arrive(ask, 1), 1);
  }

  private static void atMost1514() {
    Kit kit = Kit.booted();
    kit.arrive(Kit.tell(P), 0);
    Kit.due("2: an echo of 1514", kit.arrive(Kit.packet(P, 1, Kit.echo(1, "x".repeat(1472))), 1), 1);
    Kit.due("2: as long", kit.host.length(0), 1514);
    kit.put(Kit.packet(P, 1, Kit.echo(1, "x".repeat(1473))));
    Kit.due("6: one of 1515", kit.host.arrive(1), -3);
  }

  private static void addresses() {
    Kit kit = Kit.booted();
    for (int bit = 0; bit < 48; bit++) {
      byte[] toUs = Kit.join(Kit.MAC, Kit.slice(Kit.ask(P), 6, 42));
      byte[] toAll = Kit.ask(P);
      toUs[bit / 8] ^= 1 << bit % 8;
      toAll[bit / 8] ^= 1 << bit % 8;
      Kit.due("2: ours but for bit " + bit, kit.arrive(toUs, 1), 0);
      Kit.due("2: all ones but for bit " + bit, kit.arrive(toAll, 1), 0);
    }
    Kit.due("2: all zeros", kit.arrive(Kit.join(new byte[6], Kit.slice(Kit.ask(P), 6, 42)), 1), 0);
    Kit.due("2: nothing is learnt of these", kit.host.cached(P), false);
    Kit.due("2: ours", kit.arrive(Kit.join(Kit.MAC, Kit.slice(Kit.ask(P), 6, 42)), 1), 1);
    Kit.due("2: all ones", kit.arrive(Kit.ask(P), 1), 1);
    Kit.due("2: a packet to all ones", kit.arrive(Kit.join(Kit.ALL, Kit.slice(Kit.packet(P, 1, Kit.echo(1, "x")), 6, 43)), 1), 1);
  }

  private static void kinds() {
    Kit kit = Kit.booted();
    byte[] ask = Kit.ask(P);
    byte[] echo = Kit.packet(P, 1, Kit.echo(1, "x"));
    for (int kind : new int[] {0x0805, 0x0807, 0x0801, 0x07FF, 0x0000, 0x86DD, 0xFFFF, 0x0608, 0x0008, 0x0906}) {
      Kit.due("2: an ASK of kind " + kind, kit.arrive(Kit.join(Kit.slice(ask, 0, 12), Kit.two(kind), Kit.slice(ask, 14, 42)), 1), 0);
      Kit.due("2: an echo of kind " + kind, kit.arrive(Kit.join(Kit.slice(echo, 0, 12), Kit.two(kind), Kit.slice(echo, 14, 43)), 1), 0);
    }
    Kit.due("2: an ASK as IP", kit.arrive(Kit.join(Kit.slice(ask, 0, 12), Kit.two(0x0800), Kit.slice(ask, 14, 42)), 1), 0);
    Kit.due("2: an echo as ARP", kit.arrive(Kit.join(Kit.slice(echo, 0, 12), Kit.two(0x0806), Kit.slice(echo, 14, 43)), 1), 0);
    Kit.due("16: none of them was answered", kit.host.waiting(), 0);
    Kit.due("2: ARP", kit.arrive(ask, 1), 1);
    Kit.due("2: IP", kit.arrive(echo, 1), 1);
  }

  private static void atLeast60() {
    Kit kit = Kit.booted();
    kit.arrive(Kit.tell(P), 0);
    // Frames that were longer leave nothing behind in shorter ones.
    for (int i = 0; i < 40; i++) {
      kit.arrive(Kit.packet(P, 1, Kit.echo(1, "x".repeat(100))), 0);
    }
    for (int n = 0; n < 30; n++) {
      kit.arrive(Kit.packet(P, 1, Kit.echo(1, "y".repeat(n))), 1);
      Kit.due("2: length with " + n, kit.host.length(0), Math.max(60, 42 + n));
      byte[] frame = kit.frame(0);
      Kit.due("2: 0 behind " + n, Kit.hex(Kit.slice(frame, 42 + n, frame.length)), "00".repeat(frame.length - 42 - n));
      Kit.due("4: the total length is without these", Kit.two(frame, 16), 28 + n);
    }
  }

  /** A host with a small image, so that the frames themselves make the tray grow. */
  private static void everyLength() {
    Kit kit = Kit.booted(Kit.image());
    kit.arrive(Kit.tell(P), 0);
    for (int n = 0; n <= 1472; n++) {
      byte[] message = Kit.echo(n, "z".repeat(n));
      Kit.due("4: an echo of " + n, kit.arrive(Kit.packet(P, 1, message), 0), 1);
      byte[] frame = kit.frame(0);
      Kit.due("4: comes back, " + n, Kit.hex(Kit.slice(frame, 38, 42 + n)), Kit.hex(Kit.slice(message, 4, 8 + n)));
    }
  }

  /** A byte alone at the end counts as the higher one of its pair. */
  private static void aByteAlone() {
    Kit kit = Kit.booted();
    kit.arrive(Kit.tell(P), 0);
    byte[] right = Kit.hex("0800 f6ff 0000 0000 01");
    byte[] wrong = Kit.hex("0800 f7fe 0000 0000 01");
    Kit.due("2: the last byte with a 0 behind", kit.arrive(Kit.packet(P, 1, right), 1), 1);
    Kit.due("2: its answer", Kit.hex(Kit.slice(kit.frame(0), 34, 43)), "0000feff0000000001");
    Kit.due("2: not with a 0 before", kit.arrive(Kit.packet(P, 1, wrong), 1), 0);
    Kit.due("2: the byte behind the total length does not count",
        kit.arrive(Kit.join(Kit.packet(P, 1, right), Kit.hex("77")), 1), 1);
  }

  private static void carryPutRound() {
    Kit kit = Kit.booted();
    kit.arrive(Kit.tell(P), 0);
    // 0800 + ffff + ffff comes to 20800 - 2, so to 0800 with both carries put round.
    Kit.due("2: two carries", kit.arrive(Kit.packet(P, 1, Kit.hex("0800 f7ff ffff ffff")), 1), 1);
    Kit.due("2: without these", kit.arrive(Kit.packet(P, 1, Kit.hex("0800 f801 ffff ffff")), 1), 0);
    // A carry by putting round the first ones: ffff + ffff + 0001 is 1ffff, ffff + 1 is 10000, 0001.
    Kit.due("2: a carry of the carries", kit.arrive(Kit.packet(P, 1, Kit.echo(0xFFFF, "\u00f7\u00ff\u0000\u0001")), 1), 1);
    // The answer to 0800 f7ff 0000 0000 has the sum of nothing but zeros: ffff.
    kit.arrive(Kit.packet(P, 1, Kit.hex("0800 f7ff 0000 0000")), 1);
    Kit.due("2: of zeros alone", Kit.hex(Kit.slice(kit.frame(0), 34, 42)), "0000ffff00000000");
    // One whose sum is 0: 0000 + ffff.
    kit.arrive(Kit.packet(P, 1, Kit.hex("0800 f7ff ffff 0000")), 1);
    Kit.due("2: of ffff alone", Kit.hex(Kit.slice(kit.frame(0), 34, 42)), "00000000ffff0000");
  }

  private static void latest32() {
    Kit kit = Kit.booted();
    for (int i = 1; i <= 70; i++) {
      kit.arrive(Kit.ask(0x0A000010 + i), i);
      for (int back = 0; back < 34; back++) {
        Kit.due("9: of " + i + " the frame " + back + " back", kit.host.time(back), back < 32 && back < i ? i - back : -1);
      }
    }
    Kit.due("9: sent", kit.host.sent(), 70);
  }
}
