import java.util.ArrayList;
import java.util.Arrays;
import java.util.Collections;
import java.util.List;
import java.util.Random;

/** Runs by chance, seeded, on the program and on the model at once: all that can be seen must be the same. */
public final class ModelTest {
  private static final int RUNS = 1200;
  private static final int STEPS = 150;

  /** The other side of a connection, with what it has to say. */
  private static final class Other {
    int ip;
    int port;
    int window = 65535;
    String text = "";
    int textAt;
  }

  private final Random random;
  private final Kit kit = new Kit();
  private final WebHost host = kit.host;
  private final Model model = new Model();
  private final long seed;
  private Other[] others;
  private int time;
  private String what = "";
  private boolean isWrong;

  private ModelTest(long seed) {
    this.seed = seed;
    random = new Random(seed);
  }

  public static void main(String[] args) {
    for (long seed = 0; seed < RUNS; seed++) {
      ModelTest run = new ModelTest(seed);
      run.prepare();
      for (int i = 0; i < STEPS && !run.isWrong; i++) {
        run.goOn();
        run.step();
      }
      Kit.due("seed " + seed + " went wrong", run.isWrong, false);
    }
    Kit.finish();
  }

  private int pick(int... choices) {
    return choices[random.nextInt(choices.length)];
  }

  private String pick(String... choices) {
    return choices[random.nextInt(choices.length)];
  }

  private boolean onceIn(int n) {
    return random.nextInt(n) == 0;
  }

  private void same(String call, long got, long want) {
    if (got != want) {
      isWrong = true;
      Kit.due("seed " + seed + ", " + what + " at " + time + ": " + call, got, want);
    }
  }

  private void prepare() {
    byte[] image = Kit.image("/index.html", "<h1>hi</h1>", "/a.txt", "some text", "/big", "0123456789".repeat(random.nextInt(900)),
        "/d/index.html", "D", "/x.css", "", "/mid.js", "m".repeat(random.nextInt(1200)));
    put(image);
    same("install", host.install(), model.install());
    int bits = pick(24, 24, 8, 29, 30);
    same("boot", host.boot(Kit.IP, bits, Kit.GATE, 0x0200, 1), model.boot(Kit.IP, bits, Kit.GATE, 0x0200, 1));
    others = new Other[onceIn(5) ? 20 : 1 + random.nextInt(4)];
    for (int i = 0; i < others.length; i++) {
      others[i] = new Other();
      others[i].ip = onceIn(4) ? 0x0B000001 + i : 0x0A000003 + random.nextInt(12);
      others[i].port = 3000 + i;
    }
    // Late enough for our own numbers to pass 2^32 soon.
    for (int i = 0; i < 28 && seed % 4 == 0; i++) {
      time += 600000;
      pass();
    }
    time += seed % 4 == 0 ? 379000 + random.nextInt(700) : 0;
  }

  private void put(byte[] bytes) {
    kit.put(bytes);
    for (int i = 0; i < bytes.length; i += 20) {
      byte[] part = Arrays.copyOf(Kit.slice(bytes, i, Math.min(i + 20, bytes.length)), 20);
      model.feed(Kit.four(part, 0), Kit.four(part, 4), Kit.four(part, 8), Kit.four(part, 12), Kit.four(part, 16));
    }
    model.end(bytes.length);
  }

  /** Time goes on by little or much, now and then to just the time at which something is due. */
  private void goOn() {
    if (onceIn(30)) {
      time += random.nextInt(70000);
    } else if (onceIn(4)) {
      time += random.nextInt(1200);
    } else if (onceIn(20) && model.due() != Integer.MAX_VALUE && model.due() - time < 600000) {
      time = Math.max(time, model.due() - random.nextInt(2));
    } else if (!onceIn(3)) {
      time += random.nextInt(100);
    }
  }

  private void arrive(byte[] frame) {
    put(frame);
    int n = model.arrive(time);
    same("arrive", host.arrive(time), n);
    compare(n);
  }

  private void pass() {
    int n = model.pass(time);
    same("pass", host.pass(time), n);
    compare(n);
  }

  private void compare(int frames) {
    same("now", host.now(), model.now());
    same("sent", host.sent(), model.sent());
    same("waiting", host.waiting(), model.waiting());
    same("strays", host.strays(), 0);
    for (int i = 0; i < 8; i++) {
      same("counted " + i, host.counted(i), model.counted(i));
    }
    for (int place = 0; place < 16; place++) {
      same("state " + place, host.state(place), model.state(place));
      for (int number = 0; number < 15 && host.state(place) != 0; number++) {
        same("look " + place + " " + number, host.look(place, number), model.look(place, number));
      }
    }
    for (int i = 0; i < 20; i++) {
      same("cached", host.cached(0x0A000001 + i) ? 1 : 0, model.cached(0x0A000001 + i) ? 1 : 0);
    }
    for (int i = 0; i < Math.min(frames, 33); i++) {
      same("length " + i, host.length(i), model.length(i));
      same("time " + i, host.time(i), model.time(i));
      for (int k = 0; k <= host.length(i); k++) {
        same("at " + i + " " + k, host.at(i, k), model.at(i, k));
      }
    }
  }

  private void step() {
    Other other = others[random.nextInt(others.length)];
    int near = 0x0A000001 + random.nextInt(20);
    int kind = random.nextInt(100);
    if (kind < 8) {
      what = "ARP";
      arrive(onceIn(2) ? Kit.ask(pick(other.ip, Kit.GATE, near)) : Kit.tell(pick(other.ip, Kit.GATE, near)));
    } else if (kind < 10) {
      what = "echo";
      arrive(Kit.packet(near, 1, Kit.echo(1, "e".repeat(random.nextInt(30)))));
    } else if (kind < 13) {
      what = "piece";
      piece(other.ip);
    } else if (kind < 15) {
      what = "pass";
      pass();
    } else if (kind < 16) {
      what = "damage";
      int place = random.nextInt(model.image.length + 4) - 2;
      same("damage", host.damage(place, kind) ? 1 : 0, model.damage(place, kind) ? 1 : 0);
    } else if (placeOf(other) < 0) {
      begin(other);
    } else {
      talk(other, placeOf(other), kind);
    }
  }

  private void piece(int ip) {
    byte[] whole = Kit.echo(random.nextInt(3), "abcdefghijklmnopqrstuvwx".repeat(1 + random.nextInt(3)));
    int from = 8 * random.nextInt(whole.length / 8 + 1);
    int to = onceIn(2) ? whole.length : Math.min(whole.length, from + 8 * random.nextInt(3));
    boolean more = onceIn(10) ? onceIn(2) : to < whole.length;
    arrive(Kit.packet(ip, random.nextInt(6), from / 8 | (more ? 0x2000 : 0), pick(1, 1, 1, 17), Kit.slice(whole, from, to)));
  }

  private int placeOf(Other other) {
    for (int i = 0; i < 16; i++) {
      if (host.look(i, 0) == Integer.toUnsignedLong(other.ip) && host.look(i, 1) == other.port) {
        return i;
      }
    }
    return -1;
  }

  private void begin(Other other) {
    what = "begin";
    int seq = onceIn(3) ? -random.nextInt(6000) : random.nextInt();
    other.text = "";
    if (onceIn(6)) {
      segment(other, random.nextInt(64), seq, random.nextInt(), new byte[0], new byte[random.nextInt(4)]);
    } else {
      segment(other, Peer.SYN, seq, 0, options(), new byte[onceIn(10) ? 5 : 0]);
    }
  }

  private byte[] options() {
    if (onceIn(5)) {
      byte[] any = new byte[4 * random.nextInt(4)];
      for (int i = 0; i < any.length; i++) {
        any[i] = (byte) pick(0, 1, 2, 4, 3, 8, random.nextInt(256));
      }
      return any;
    }
    byte[] mss = Kit.join(Kit.hex("0204"), Kit.two(pick(64, 1460, random.nextInt(1600))));
    return onceIn(3) ? Kit.join(Kit.hex("01010402"), mss) : mss;
  }

  /** A segment whole or in fragments, which may be out of order, lost, or doubled. */
  private void segment(Other other, int flags, int seq, int ack, byte[] options, byte[] data) {
    int[] fields = {other.port, onceIn(200) ? 81 : 80, seq, ack, flags, other.window};
    byte[] segment = Kit.tcp(other.ip, fields, options, data);
    if (onceIn(150)) {
      segment[random.nextInt(segment.length)] ^= 1 << random.nextInt(8);
    }
    if (segment.length <= 1480 && !onceIn(25)) {
      arrive(Kit.packet(other.ip, 6, segment));
      return;
    }
    List<byte[]> pieces = new ArrayList<>();
    int id = random.nextInt(5);
    int to = 0;
    for (int from = 0; from < segment.length; from = to) {
      to = Math.min(segment.length, from + 8 * (1 + random.nextInt(180)));
      int piece = from / 8 | (to < segment.length ? 0x2000 : 0);
      pieces.add(Kit.packet(other.ip, id, piece, 6, Kit.slice(segment, from, to)));
    }
    if (onceIn(3)) {
      Collections.shuffle(pieces, random);
    }
    if (onceIn(10)) {
      pieces.remove(0);
    }
    for (byte[] piece : pieces) {
      arrive(piece);
    }
  }

  /** A number that the other side might acknowledge. */
  private int acknowledged(int place) {
    int una = (int) host.look(place, 2);
    int max = (int) host.look(place, 4);
    switch (random.nextInt(12)) {
      case 0: return una;
      case 1: return (int) host.look(place, 3);
      case 2: return una + random.nextInt(max - una + 1);
      case 3: return una + Math.min(max - una, (int) host.look(place, 10));
      case 4: return una + Math.min(max - una, 1);
      case 5: return onceIn(3) ? pick(max + 1, una - 1, una + Integer.MIN_VALUE) : una;
      default: return max;
    }
  }

  private void talk(Other other, int place, int kind) {
    int next = (int) host.look(place, 5);
    int ack = host.state(place) == 1 && !onceIn(6) ? (int) host.look(place, 4) : acknowledged(place);
    if (onceIn(4)) {
      other.window = pick(0, 0, 1, 2, 100, 500, 536, 700, 1460, 1461, 3000, 65535, 65535, 65535, random.nextInt(65536));
    }
    if (kind < 18) {
      what = "odd";
      int seq = next + pick(0, 0, 1, -1, 4095, 4096, random.nextInt(100) - 50);
      segment(other, random.nextInt(64), seq, ack, new byte[0], new byte[random.nextInt(5)]);
    } else if (kind < 19) {
      what = "FIN";
      segment(other, Peer.ACK | Peer.FIN, next + (onceIn(3) ? random.nextInt(30) : 0), ack, new byte[0], new byte[0]);
    } else if (kind < 45) {
      what = "ACK";
      for (int i = onceIn(6) ? random.nextInt(6) : 0; i >= 0; i--) {
        segment(other, Peer.ACK, next, ack, new byte[0], new byte[0]);
      }
    } else {
      what = "data";
      say(other, next, ack);
    }
  }

  /** Goes on with what it has to say, mostly in order, or begins with something new. */
  private void say(Other other, int next, int ack) {
    int at = next - other.textAt;
    if (at < 0 || at >= other.text.length()) {
      StringBuilder text = new StringBuilder();
      for (int i = onceIn(4) ? random.nextInt(5) : 0; i >= 0; i--) {
        text.append(request());
      }
      other.text = text + (onceIn(25) ? "x".repeat(5000) : "");
      other.textAt = next;
      at = 0;
    }
    int from = Math.max(0, Math.min(other.text.length() - 1, onceIn(5) ? at + random.nextInt(400) - 200 : at));
    int to = Math.min(other.text.length(), from + 1 + random.nextInt(onceIn(3) ? 60 : 1400));
    byte[] data = Kit.latin(other.text.substring(from, to));
    if (onceIn(15)) {
      data[random.nextInt(data.length)] = (byte) pick(10, 13, 32, 0, 127, 200, 'x');
    }
    int flags = Peer.ACK | (onceIn(3) ? Peer.PSH : 0) | (onceIn(25) ? Peer.FIN : 0);
    segment(other, flags, other.textAt + from, ack, new byte[0], data);
  }

  private String request() {
    String target = pick("/", "/a.txt", "/big", "/a.txt?x=%", "/%61.txt", "/none", "/d/", "/x.css", "/%zz", "/mid.js", "/big");
    String end = onceIn(8) ? "\n" : "\r\n";
    StringBuilder text = new StringBuilder(onceIn(8) ? "\r\n\n" : "");
    text.append(onceIn(5) ? pick("HEAD", "HEAD", "POST", "get") : "GET").append(' ').append(target).append(' ');
    text.append(onceIn(5) ? pick("HTTP/1.0", "HTTP/1.0", "HTTP/1.2") : "HTTP/1.1").append(end);
    text.append(onceIn(30) ? "" : pick("Host", "hOST") + ": h" + end);
    if (onceIn(3)) {
      text.append(pick("Connection: close", "Connection: keep-alive", "connection: x, close\t,y", "If-None-Match: *",
          "If-None-Match: \"" + String.format("%08x", Kit.check(Kit.latin("some text"))) + "\"", "X-Y: z")).append(end);
    }
    if (onceIn(6)) {
      text.append("X: ").append("v".repeat(random.nextInt(onceIn(4) ? 3000 : 200))).append(end);
    }
    if (onceIn(20)) {
      text.append(pick("Host: again", "Content-Length: 65537", "Content-Length: x", "Transfer-Encoding: x", "bad field")).append(end);
    }
    int body = onceIn(5) ? random.nextInt(onceIn(3) ? 5000 : 40) : 0;
    text.append(body == 0 ? "" : "Content-Length: " + body + end);
    return text + end + "b".repeat(body);
  }
}
