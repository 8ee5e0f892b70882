/** Promises 6 to 12: arrive, pass, now, sent, length, at, time; and which frames are dropped. */
public final class FramesTest {
  public static void main(String[] args) {
    refusals();
    latest();
    dropped();
    Kit.finish();
  }

  private static void refusals() {
    Kit kit = Kit.booted();
    WebHost x = kit.host;
    Kit.due("8: now at boot", x.now(), 0);
    Kit.due("6: empty tray", x.arrive(0), -3);
    Kit.due("6: time before empty tray", x.arrive(-1), -2);
    Kit.due("7: pass(-1)", x.pass(-1), -2);
    Kit.due("7: pass(600001)", x.pass(600001), -2);
    Kit.due("8: now stays", x.now(), 0);
    Kit.due("7: pass(600000)", x.pass(600000), 0);
    Kit.due("8: now", x.now(), 600000);
    Kit.due("7: the same time", x.pass(600000), 0);
    Kit.due("7: before", x.pass(599999), -2);
    Kit.due("7: MAX", x.pass(Integer.MAX_VALUE), -2);
    Kit.due("7: MIN", x.pass(Integer.MIN_VALUE), -2);
    kit.put(Kit.ask(0x0A000009));
    Kit.due("6: before", x.arrive(599999), -2);
    Kit.due("6: too late", x.arrive(1200001), -2);
    Kit.due("6: nothing changed", x.now(), 600000);
    Kit.due("6: the tray stays", x.end(42), 42);
    Kit.due("17: refused frames are not counted", x.counted(0), 0);
    Kit.due("6: arrives", x.arrive(1200000), 1);
    Kit.due("6: the tray is empty", x.end(1), -1);
    kit.put(new byte[1515]);
    Kit.due("6: 1515 bytes", x.arrive(1200000), -3);
    x.end(1514);
    Kit.due("6: 1514 bytes", x.arrive(1200000), 0);
    Kit.due("17: frames", x.counted(0), 2);
    lateTimes();
  }

  private static void lateTimes() {
    WebHost x = Kit.booted().host;
    int time = 0;
    for (int i = 0; i < 3333; i++) {
      time += 600000;
      x.pass(time);
    }
    Kit.due("7: up to 2000000000", x.pass(2000000000), 0);
    Kit.due("7: above it", x.pass(2000000001), -2);
    Kit.due("8: now", x.now(), 2000000000);
  }

  private static void latest() {
    Kit kit = Kit.booted();
    WebHost x = kit.host;
    Kit.due("9: sent", x.sent(), 0);
    Kit.due("10: none", x.length(0), -1);
    for (int i = 0; i < 33; i++) {
      Kit.due("6: one frame each", kit.arrive(Kit.ask(0x0A000010 + i), 10 * i), 1);
    }
    Kit.due("9: sent", x.sent(), 33);
    Kit.due("10: latest", x.length(0), 60);
    Kit.due("10: oldest kept", x.length(31), 60);
    Kit.due("10: older", x.length(32), -1);
    Kit.due("10: below", x.length(-1), -1);
    Kit.due("11: latest", x.at(0, 41), 0x30);
    Kit.due("11: oldest kept", x.at(31, 41), 0x11);
    Kit.due("11: last byte", x.at(0, 59), 0);
    Kit.due("11: a byte beyond", x.at(0, 60), -1);
    Kit.due("11: a byte before", x.at(0, -1), -1);
    Kit.due("11: no frame", x.at(32, 0), -1);
    Kit.due("11: without sign", x.at(0, 0), 2);
    Kit.due("12: latest", x.time(0), 320);
    Kit.due("12: oldest kept", x.time(31), 10);
    Kit.due("12: none", x.time(32), -1);
    Kit.due("12: below", x.time(-1), -1);
    kit.arrive(Kit.packet(0x0A000030, 1, Kit.echo(3, "a".repeat(1472))), 400);
    Kit.due("10: a great frame", x.length(0), 1514);
    Kit.due("11: its last byte", x.at(0, 1513), 'a');
    Kit.due("11: beyond it", x.at(0, 1514), -1);
    for (int i = 0; i < 32; i++) {
      kit.arrive(Kit.ask(0x0A000030), 500);
    }
    Kit.due("2: 0 behind, where a greater frame was", Kit.hex(Kit.slice(kit.frame(0), 42, 60)), "00".repeat(18));
  }

  private static void dropped() {
    Kit kit = Kit.booted();
    byte[] ask = Kit.ask(0x0A000009);
    Kit.due("6: a byte alone", kit.arrive(new byte[1], 1), 0);
    Kit.due("2: 13 bytes", kit.arrive(Kit.slice(ask, 0, 13), 1), 0);
    Kit.due("2: 14 bytes", kit.arrive(Kit.slice(ask, 0, 14), 1), 0);
    Kit.due("3: 27 bytes of ARP", kit.arrive(Kit.slice(ask, 0, 41), 1), 0);
    byte[] other = ask.clone();
    other[5] = 0;
    Kit.due("2: to another address", kit.arrive(other, 1), 0);
    other = Kit.join(Kit.hex("020000000002"), Kit.slice(ask, 6, 42));
    Kit.due("2: to an address with our high bytes", kit.arrive(other, 1), 0);
    other = Kit.join(Kit.hex("040000000001"), Kit.slice(ask, 6, 42));
    Kit.due("2: to an address with our low bytes", kit.arrive(other, 1), 0);
    byte[] kind = ask.clone();
    kind[12] = (byte) 0x86;
    Kit.due("2: of another kind", kit.arrive(kind, 1), 0);
    Kit.due("15: nothing learnt", kit.host.cached(0x0A000009), false);
    byte[] ours = Kit.join(Kit.MAC, Kit.slice(ask, 6, 42));
    Kit.due("2: to our address", kit.arrive(ours, 1), 1);
    Kit.due("17: all were counted", kit.host.counted(0), 9);
  }
}
