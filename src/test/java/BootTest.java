import java.util.Arrays;

/** Promise 5: boot, its refusals in their order, and what makes an image right. */
public final class BootTest {
  private static final String LONG = "/23456789012345678901234567890123456789012345678";

  public static void main(String[] args) {
    numbers();
    images();
    again();
    Kit.finish();
  }

  private static void numbers() {
    Kit kit = new Kit();
    WebHost x = kit.host;
    kit.put(Kit.image("/a", "a", "/b", "b"));
    x.install();
    Kit.due("5: bits 7", x.boot(Kit.IP, 7, Kit.GATE, 0x0200, 1), -1);
    Kit.due("5: bits 31", x.boot(Kit.IP, 31, Kit.GATE, 0x0200, 1), -1);
    Kit.due("5: bits -1", x.boot(Kit.IP, -1, Kit.GATE, 0x0200, 1), -1);
    Kit.due("5: bits 40", x.boot(Kit.IP, 40, Kit.GATE, 0x0200, 1), -1);
    Kit.due("5: first byte 0", x.boot(0x00000002, 24, 1, 0x0200, 1), -1);
    Kit.due("5: first byte 127", x.boot(0x7F000002, 24, 0x7F000001, 0x0200, 1), -1);
    Kit.due("5: first byte 224", x.boot(0xE0000002, 24, 0xE0000001, 0x0200, 1), -1);
    Kit.due("5: first byte 255", x.boot(0xFF000002, 24, 0xFF000001, 0x0200, 1), -1);
    Kit.due("5: gateway outside", x.boot(Kit.IP, 24, 0x0A000101, 0x0200, 1), -2);
    Kit.due("5: gateway is ip", x.boot(Kit.IP, 24, Kit.IP, 0x0200, 1), -2);
    Kit.due("5: odd address", x.boot(Kit.IP, 24, Kit.GATE, 0x0300, 1), -2);
    Kit.due("5: -1 before -2", x.boot(Kit.IP, 7, Kit.IP, 0x0300, 1), -1);
    Kit.due("5: not booted yet", x.now(), -1);
    Kit.due("5: first byte 223, bits 8", x.boot(0xDF000002, 8, 0xDFFFFFFF, 0x0200, 1), 2);
    Kit.due("5: first byte 1, bits 30", x.boot(0x01000002, 30, 0x01000001, 0x0200, 1), 2);
    Kit.due("5: outside of 30 bits", x.boot(0x01000002, 30, 0x01000004, 0x0200, 1), -2);
    Kit.due("5: first byte 128", x.boot(0x80000002, 24, 0x80000001, 0x0200, 1), 2);
    Kit.due("5: only the lowest bytes of high", x.boot(Kit.IP, 24, Kit.GATE, 0x01010201, -1), 2);
    kit.put(Kit.ask(0x0A000009));
    x.arrive(0);
    Kit.due("5: the address", Kit.hex(Kit.slice(kit.frame(0), 6, 12)), "0201ffffffff");
  }

  private static void images() {
    byte[] good = Kit.image("/a", "aa", "/b", "");
    Kit.due("5: right", Kit.bootOf(good), 2);
    for (int i = 0; i < 8 + 2 * 64 + 4; i++) {
      byte[] bad = good.clone();
      bad[i] ^= 1;
      Kit.due("5: byte " + i + " is another one", Kit.bootOf(bad), -3);
    }
    Kit.due("5: too short for its check", Kit.bootOf(Arrays.copyOf(Kit.image(), 11)), -3);
    Kit.due("5: empty", Kit.bootOf(new byte[0]), -3);
    Kit.due("5: no files", Kit.bootOf(Kit.image()), 0);
    Kit.due("5: a name twice", Kit.bootOf(Kit.image("/a", "a", "/b", "b", "/a", "c")), -3);
    Kit.due("5: a name without /", Kit.bootOf(Kit.image("a", "a")), -3);
    Kit.due("5: a blank in a name", Kit.bootOf(Kit.image("/a b", "a")), -3);
    Kit.due("5: a blank right behind /", Kit.bootOf(Kit.image("/ ", "a")), -3);
    Kit.due("5: 127 in a name", Kit.bootOf(Kit.image("/a\u007f", "a")), -3);
    Kit.due("5: 126 and 33 in a name", Kit.bootOf(Kit.image("/a~!", "a")), 1);
    Kit.due("5: a byte behind a name", Kit.bootOf(Kit.image("/a\0b", "a")), -3);
    Kit.due("5: a name of 47", Kit.bootOf(Kit.image(LONG.substring(0, 47), "a")), 1);
    Kit.due("5: a name of 48", Kit.bootOf(Kit.image(LONG, "a")), -3);
    Kit.due("5: a name of / alone", Kit.bootOf(Kit.image("/", "a")), 1);
    Kit.due("5: no name", Kit.bootOf(Kit.image("", "a")), -3);
    Kit.due("5: two bytes not 0", Kit.bootOf(Kit.sealed(Kit.join(Kit.latin("STOR"), Kit.two(0), Kit.two(1)))), -3);
    Kit.due("5: a faulty sign", Kit.bootOf(Kit.sealed(Kit.join(Kit.latin("STOP"), Kit.four(0)))), -3);
    Kit.due("5: 64 files", Kit.bootOf(Kit.imageOf(64)), 64);
    Kit.due("5: 65 files", Kit.bootOf(Kit.imageOf(65)), -3);
    places();
  }

  private static byte[] entry(int place, int length, int last) {
    byte[] name = Arrays.copyOf(Kit.latin("/a"), 48);
    byte[] head = Kit.join(Kit.latin("STOR"), Kit.two(1), Kit.two(0));
    return Kit.sealed(Kit.join(head, name, Kit.four(place), Kit.four(length), Kit.four(0), Kit.four(last)));
  }

  private static void places() {
    Kit.due("5: the whole image as a file", Kit.bootOf(entry(0, 76, 0)), 1);
    Kit.due("5: nothing at its end", Kit.bootOf(entry(76, 0, 0)), 1);
    Kit.due("5: beyond its end", Kit.bootOf(entry(76, 1, 0)), -3);
    Kit.due("5: nothing beyond its end", Kit.bootOf(entry(77, 0, 0)), -3);
    Kit.due("5: place without sign", Kit.bootOf(entry(-1, 1, 0)), -3);
    Kit.due("5: length without sign", Kit.bootOf(entry(10, -5, 0)), -3);
    Kit.due("5: sum of both beyond 32 bits", Kit.bootOf(entry(-10, 20, 0)), -3);
    Kit.due("5: last bytes not 0", Kit.bootOf(entry(0, 0, 1)), -3);
  }

  private static void again() {
    Kit kit = Kit.booted();
    WebHost x = kit.host;
    new Peer(kit, 0x0A000009, 5000).open(100);
    kit.arrive(Kit.packet(0x0A000077, 1, Kit.echo(1, "x")), 200);
    Kit.due("5: waiting before", x.waiting(), 1);
    x.feed(1, 2, 3, 4, 5);
    Kit.due("5: refused", x.boot(Kit.IP, 31, Kit.GATE, 0x0200, 1), -1);
    Kit.due("5: refused, nothing changes", x.now(), 200);
    Kit.due("5: refused, state stays", x.state(0), 2);
    Kit.due("5: booted again", x.boot(Kit.IP, 24, Kit.GATE, 0x0200, 1), 2);
    Kit.due("5: time 0", x.now(), 0);
    Kit.due("5: no frames", x.sent(), 0);
    Kit.due("5: no frame", x.length(0), -1);
    Kit.due("5: no connection", x.state(0), 0);
    Kit.due("5: no entry", x.cached(0x0A000009), false);
    Kit.due("5: nor one for 0", x.cached(0), false);
    Kit.due("5: nothing waits", x.waiting(), 0);
    Kit.due("5: the tray stays", x.end(20), 20);
    for (int i = 0; i < 8; i++) {
      Kit.due("5: counted " + i, x.counted(i), 0);
    }
    Kit.due("5: no timer is left", x.pass(600000), 0);
    x.end(0);
    new Peer(kit, 0x0A000009, 5000).open(600001);
    Kit.due("5: the first connection again", x.look(0, 2), (64000L + 250L * 600001 + 1) & 0xFFFFFFFFL);
    Kit.due("5: the first identification again", Kit.two(kit.frame(0), 18), 1);
    byte[] echo = Kit.echo(1, "abcdefgh");
    kit.arrive(Kit.packet(0x0A000009, 3, 0x2000, 1, Kit.slice(echo, 0, 8)), 600010);
    x.boot(Kit.IP, 24, Kit.GATE, 0x0200, 1);
    kit.arrive(Kit.packet(0x0A000009, 3, 1, 1, Kit.slice(echo, 8, 16)), 100);
    Kit.due("5: no datagram in the making", x.counted(1), 0);
  }
}
