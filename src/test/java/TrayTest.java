/** Promises 1 to 4: a new object, feed, end, install. */
public final class TrayTest {
  public static void main(String[] args) {
    newObject();
    feeding();
    ending();
    installing();
    limits();
    Kit.finish();
  }

  private static void newObject() {
    WebHost x = new WebHost();
    Kit.due("1: now", x.now(), -1);
    Kit.due("1: sent", x.sent(), -1);
    Kit.due("1: end(1) of an empty tray", x.end(1), -1);
    Kit.due("1: arrive", x.arrive(0), -1);
    Kit.due("1: pass", x.pass(0), -1);
    Kit.due("1: boot without image", x.boot(Kit.IP, 24, Kit.GATE, 0x0200, 1), -3);
    Kit.due("1: damage without image", x.damage(0, 1), false);
    Kit.due("1: length", x.length(0), -1);
    Kit.due("1: at", x.at(0, 0), -1);
    Kit.due("1: time", x.time(0), -1);
    Kit.due("1: state", x.state(0), 0);
    Kit.due("1: state of the last place", x.state(15), 0);
    Kit.due("1: state of no place", x.state(16), -1);
    Kit.due("1: state below", x.state(-1), -1);
    Kit.due("1: look", x.look(0, 0), 4294967296L);
    Kit.due("1: cached", x.cached(0), false);
    Kit.due("1: waiting", x.waiting(), 0);
    Kit.due("1: counted", x.counted(0), -1);
    Kit.due("1: strays", x.strays(), 0);
    Kit.due("1: install of nothing", x.install(), 0);
  }

  private static void feeding() {
    WebHost x = new WebHost();
    for (int i = 1; i <= 20; i++) {
      Kit.due("2: feed", x.feed(i, -1, 0, Integer.MIN_VALUE, i), 20 * i);
    }
    // The bytes and their order show in an image that is right only with them.
    byte[] image = Kit.image("/a", "abc");
    Kit kit = new Kit();
    kit.put(image);
    Kit.due("2: install", kit.host.install(), image.length);
    Kit.due("2: boot", kit.host.boot(Kit.IP, 24, Kit.GATE, 0x0200, 1), 1);
  }

  private static void ending() {
    WebHost x = new WebHost();
    x.feed(0, 0, 0, 0, 0);
    Kit.due("3: end(-1)", x.end(-1), -1);
    Kit.due("3: end(21)", x.end(21), -1);
    Kit.due("3: end(20)", x.end(20), 20);
    Kit.due("3: end(7)", x.end(7), 7);
    Kit.due("3: end(8) behind end(7)", x.end(8), -1);
    Kit.due("3: feed behind it", x.feed(0, 0, 0, 0, 0), 27);
    Kit.due("3: end(0)", x.end(0), 0);
    Kit.due("3: end(MIN)", x.end(Integer.MIN_VALUE), -1);
    Kit.due("3: end(MAX)", x.end(Integer.MAX_VALUE), -1);
    Kit.due("3: nothing changed", x.feed(0, 0, 0, 0, 0), 20);
  }

  private static void installing() {
    Kit kit = Kit.booted();
    WebHost x = kit.host;
    kit.arrive(Kit.ask(0x0A000009), 5);
    Kit.due("4: a frame before", x.sent(), 1);
    x.feed(1, 2, 3, 4, 5);
    Kit.due("4: install", x.install(), 20);
    Kit.due("4: the tray is empty", x.end(1), -1);
    Kit.due("4: not booted", x.now(), -1);
    Kit.due("4: not booted, sent", x.sent(), -1);
    Kit.due("4: not booted, length", x.length(0), -1);
    Kit.due("4: not booted, cached", x.cached(0x0A000009), false);
    Kit.due("4: not booted, pass", x.pass(10), -1);
    Kit.due("4: not booted, counted", x.counted(0), -1);
    Kit.due("4: the image is another one", x.boot(Kit.IP, 24, Kit.GATE, 0x0200, 1), -3);
    kit.put(Kit.image());
    Kit.due("4: an image without files", x.install(), 12);
    Kit.due("4: and its boot", x.boot(Kit.IP, 24, Kit.GATE, 0x0200, 1), 0);
    Kit.due("4: the cache is empty", x.cached(0x0A000009), false);
    Kit.due("4: no frames", x.sent(), 0);
  }

  /** More calls than an object is promised for, yet the only way to these edges. */
  private static void limits() {
    WebHost x = new WebHost();
    int n = 0;
    for (int i = 0; i < 3277; i++) {
      n = x.feed(0x53544F52, 0, 0, 0, 0);
    }
    Kit.due("2: a full tray", n, 65540);
    Kit.due("2: feed beyond", x.feed(0, 0, 0, 0, 0), -1);
    Kit.due("4: too long an image", x.install(), -1);
    Kit.due("4: the tray stays", x.end(65536), 65536);
    Kit.due("4: still too long", x.install(), -1);
    Kit.due("3: end", x.end(65535), 65535);
    Kit.due("2: feed beyond from there", x.feed(0, 0, 0, 0, 0), -1);
    Kit.due("4: just not too long", x.install(), 65535);
  }
}
