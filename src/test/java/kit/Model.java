import java.util.ArrayList;
import java.util.Arrays;
import java.util.HashSet;
import java.util.List;
import java.util.Set;

/**
 * The document written down a second time, plainly and with no regard to room or speed, to compare the program with. This
 * is the machine up to its packets; connections are in ModelTcp, requests in ModelWeb.
 */
final class Model {
  /** An entry of the cache. */
  static final class Entry {
    int ip;
    int time;
    byte[] address;
  }

  /** A hop that is waited for. */
  static final class Hop {
    int ip;
    int since;
    int asked;
    byte[] packet;
  }

  /** A datagram in the making. */
  static final class Making {
    int from;
    int id;
    int protocol;
    int since;
    Integer end;
    final Byte[] bytes = new Byte[4096];
  }

  int ip;
  int now;
  final int[] counts = new int[8];
  byte[] image = new byte[0];
  byte[] atBoot = new byte[0];
  final ModelTcp tcp = new ModelTcp(this);
  private byte[] tray = new byte[0];
  private boolean booted;
  private int bits;
  private int gateway;
  private int nextId;
  private byte[] address;
  private final List<byte[]> frames = new ArrayList<>();
  private final List<Integer> times = new ArrayList<>();
  private final List<Entry> cache = new ArrayList<>();
  private final List<Hop> hops = new ArrayList<>();
  private final List<Making> makings = new ArrayList<>();

  int feed(int a, int b, int c, int d, int e) {
    if (tray.length + 20 > 65540) {
      return -1;
    }
    tray = Kit.join(tray, Kit.four(a), Kit.four(b), Kit.four(c), Kit.four(d), Kit.four(e));
    return tray.length;
  }

  int end(int n) {
    if (n < 0 || n > tray.length) {
      return -1;
    }
    tray = Arrays.copyOf(tray, n);
    return n;
  }

  private byte[] takeTray() {
    byte[] bytes = tray;
    tray = new byte[0];
    return bytes;
  }

  int install() {
    if (tray.length > 65535) {
      return -1;
    }
    image = takeTray();
    booted = false;
    return image.length;
  }

  int boot(int ip, int bits, int gateway, int high, int low) {
    if (bits < 8 || bits > 30 || !isFirstByteRight(ip)) {
      return -1;
    }
    if (gateway >>> 32 - bits != ip >>> 32 - bits || gateway == ip || (high >> 8 & 1) == 1) {
      return -2;
    }
    if (!isImageRight()) {
      return -3;
    }
    this.ip = ip;
    this.bits = bits;
    this.gateway = gateway;
    address = Kit.join(Kit.two(high), Kit.four(low));
    atBoot = image.clone();
    booted = true;
    now = 0;
    nextId = 1;
    Arrays.fill(counts, 0);
    frames.clear();
    times.clear();
    cache.clear();
    hops.clear();
    makings.clear();
    tcp.clear();
    return Kit.two(image, 4);
  }

  private static boolean isFirstByteRight(int ip) {
    int first = ip >>> 24;
    return first >= 1 && first <= 223 && first != 127;
  }

  private boolean isImageRight() {
    if (image.length < 12 || !Kit.latin(Kit.slice(image, 0, 4)).equals("STOR")) {
      return false;
    }
    int n = Kit.two(image, 4);
    int table = 8 + 64 * n;
    if (n > 64 || Kit.two(image, 6) != 0 || image.length < table + 4) {
      return false;
    }
    if (Kit.check(Kit.slice(image, 0, table)) != Kit.four(image, table)) {
      return false;
    }
    Set<String> names = new HashSet<>();
    for (int i = 0; i < n; i++) {
      byte[] entry = Kit.slice(image, 8 + 64 * i, 72 + 64 * i);
      String name = Kit.latin(Kit.slice(entry, 0, 48));
      long place = Integer.toUnsignedLong(Kit.four(entry, 48));
      long length = Integer.toUnsignedLong(Kit.four(entry, 52));
      if (!name.matches("/[\\x21-\\x7e]{0,46}\\x00+") || !names.add(name)) {
        return false;
      }
      if (place + length > image.length || Kit.four(entry, 60) != 0) {
        return false;
      }
    }
    return true;
  }

  private int refusal(int time) {
    if (!booted) {
      return -1;
    }
    return time < now || (long) time - now > 600000 || time > 2000000000 ? -2 : 0;
  }

  int arrive(int time) {
    if (refusal(time) != 0) {
      return refusal(time);
    }
    if (tray.length == 0 || tray.length > 1514) {
      return -3;
    }
    int before = frames.size();
    goOn(time);
    counts[0]++;
    takeFrame(takeTray());
    return frames.size() - before;
  }

  int pass(int time) {
    if (refusal(time) != 0) {
      return refusal(time);
    }
    int before = frames.size();
    goOn(time);
    return frames.size() - before;
  }

  int now() {
    return booted ? now : -1;
  }

  int sent() {
    return booted ? frames.size() : -1;
  }

  private byte[] back(int i) {
    return !booted || i < 0 || i > 31 || i >= frames.size() ? null : frames.get(frames.size() - 1 - i);
  }

  int length(int i) {
    return back(i) == null ? -1 : back(i).length;
  }

  int at(int i, int k) {
    byte[] frame = back(i);
    return frame == null || k < 0 || k >= frame.length ? -1 : Kit.one(frame, k);
  }

  int time(int i) {
    return back(i) == null ? -1 : times.get(times.size() - 1 - i);
  }

  int state(int place) {
    if (place < 0 || place > 15) {
      return -1;
    }
    return booted && tcp.places[place] != null ? tcp.places[place].state : 0;
  }

  long look(int place, int what) {
    if (!booted || place < 0 || place > 15 || tcp.places[place] == null || what < 0 || what > 14) {
      return 4294967296L;
    }
    return Integer.toUnsignedLong(tcp.places[place].numbers()[what]);
  }

  boolean cached(int number) {
    return booted && counting(number) != null;
  }

  int waiting() {
    return booted ? hops.size() : 0;
  }

  int counted(int what) {
    return !booted || what < 0 || what > 7 ? -1 : counts[what];
  }

  boolean damage(int place, int value) {
    if (place < 0 || place >= image.length || booted && tcp.isBusy()) {
      return false;
    }
    image[place] = (byte) value;
    return true;
  }

  /** The time of the next thing that is due. */
  int due() {
    int due = tcp.due();
    for (Hop hop : hops) {
      due = Math.min(due, hop.since + 1000 * hop.asked);
    }
    for (Making making : makings) {
      due = Math.min(due, making.since + 15000);
    }
    return due;
  }

  private void goOn(int time) {
    while (due() <= time) {
      now = due();
      happen();
    }
    now = time;
  }

  private void happen() {
    for (Hop hop : hops) {
      if (hop.since + 1000 * hop.asked == now) {
        if (hop.asked == 3) {
          hops.remove(hop);
        } else {
          hop.asked++;
          ask(hop.ip);
        }
        return;
      }
    }
    for (Making making : makings) {
      if (making.since + 15000 == now) {
        makings.remove(making);
        return;
      }
    }
    tcp.happen();
  }

  private void put(byte[]... parts) {
    byte[] frame = Kit.join(parts);
    frames.add(frame.length < 60 ? Arrays.copyOf(frame, 60) : frame);
    times.add(now);
  }

  private void takeFrame(byte[] frame) {
    if (frame.length < 14) {
      return;
    }
    byte[] to = Kit.slice(frame, 0, 6);
    byte[] carried = Kit.slice(frame, 14, frame.length);
    if (!Arrays.equals(to, address) && !Arrays.equals(to, Kit.ALL)) {
      return;
    }
    if (Kit.two(frame, 12) == 0x0806) {
      takeArp(carried);
    } else if (Kit.two(frame, 12) == 0x0800) {
      takePacket(carried);
    }
  }

  private Entry entry(int number) {
    for (Entry entry : cache) {
      if (entry.ip == number) {
        return entry;
      }
    }
    return null;
  }

  private Entry counting(int number) {
    Entry entry = entry(number);
    return entry != null && now - entry.time < 60000 ? entry : null;
  }

  private void takeArp(byte[] arp) {
    if (arp.length < 28 || !Kit.hex(Kit.slice(arp, 0, 8)).matches("00010800060400" + "0[12]")) {
      return;
    }
    byte[] sender = Kit.slice(arp, 8, 14);
    int number = Kit.four(arp, 14);
    boolean isForUs = Kit.four(arp, 24) == ip;
    Entry entry = entry(number);
    if (entry == null && isForUs && number != ip) {
      entry = newEntry();
    }
    if (entry != null) {
      entry.ip = number;
      entry.address = sender;
      entry.time = now;
      release(entry);
    }
    if (Kit.two(arp, 6) == 1 && isForUs) {
      put(sender, address, Kit.hex("0806 0001 0800 06 04 0002"), address, Kit.four(ip), sender, Kit.four(number));
    }
  }

  private Entry newEntry() {
    Entry entry = new Entry();
    if (cache.size() < 16) {
      cache.add(entry);
      return entry;
    }
    int oldest = 0;
    for (int i = 0; i < 16; i++) {
      oldest = cache.get(i).time < cache.get(oldest).time ? i : oldest;
    }
    cache.set(oldest, entry);
    return entry;
  }

  private void release(Entry entry) {
    for (Hop hop : new ArrayList<>(hops)) {
      if (hop.ip == entry.ip) {
        hops.remove(hop);
        put(entry.address, address, Kit.two(0x0800), hop.packet);
      }
    }
  }

  private void ask(int number) {
    put(Kit.ALL, address, Kit.hex("0806 0001 0800 06 04 0001"), address, Kit.four(ip), new byte[6], Kit.four(number));
  }

  void send(int to, int protocol, byte[] body) {
    byte[] header = Kit.header(ip, to, nextId, 0x4000, protocol, body.length);
    byte[] packet = Kit.join(header, body);
    nextId = (nextId + 1) % 65536;
    int number = to >>> 32 - bits == ip >>> 32 - bits ? to : gateway;
    Entry entry = counting(number);
    if (entry != null) {
      put(entry.address, address, Kit.two(0x0800), packet);
      return;
    }
    for (Hop hop : hops) {
      if (hop.ip == number) {
        hop.packet = packet;
        return;
      }
    }
    if (hops.size() < 8) {
      Hop hop = new Hop();
      hop.ip = number;
      hop.since = now;
      hop.asked = 1;
      hop.packet = packet;
      hops.add(hop);
      ask(number);
    }
  }

  private void takePacket(byte[] packet) {
    if (packet.length < 20 || Kit.one(packet, 0) >> 4 != 4) {
      return;
    }
    int header = (packet[0] & 15) * 4;
    int total = Kit.two(packet, 2);
    if (header < 20 || total < header || total > packet.length || Kit.sum(Kit.slice(packet, 0, header)) != 0) {
      return;
    }
    int from = Kit.four(packet, 12);
    if (Kit.four(packet, 16) != ip || from == ip || !isFirstByteRight(from)) {
      return;
    }
    byte[] body = Kit.slice(packet, header, total);
    if ((Kit.two(packet, 6) & 0x3FFF) != 0) {
      body = puttingTogether(from, packet, body);
    }
    if (body != null && packet[9] == 1) {
      echo(from, body);
    } else if (body != null && packet[9] == 6) {
      tcp.take(from, body);
    }
  }

  private Making making(int from, byte[] header) {
    int id = Kit.two(header, 4);
    int protocol = Kit.one(header, 9);
    for (Making making : makings) {
      if (making.from == from && making.id == id && making.protocol == protocol) {
        return making;
      }
    }
    if (makings.size() == 4) {
      return null;
    }
    Making making = new Making();
    making.from = from;
    making.id = id;
    making.protocol = protocol;
    making.since = now;
    makings.add(making);
    return making;
  }

  /** The whole datagram, if the fragment was the last that it lacked. */
  private byte[] puttingTogether(int from, byte[] header, byte[] body) {
    boolean more = (Kit.two(header, 6) & 0x2000) != 0;
    int offset = (Kit.two(header, 6) & 0x1FFF) * 8;
    int end = offset + body.length;
    if (more && (body.length < 8 || body.length % 8 != 0) || end > 4096) {
      return null;
    }
    Making making = making(from, header);
    if (making == null) {
      return null;
    }
    if (contradicts(making, end, more)) {
      makings.remove(making);
      return null;
    }
    making.end = more ? making.end : Integer.valueOf(end);
    for (int i = 0; i < body.length; i++) {
      making.bytes[offset + i] = making.bytes[offset + i] == null ? Byte.valueOf(body[i]) : making.bytes[offset + i];
    }
    return whole(making);
  }

  private static boolean contradicts(Making making, int end, boolean more) {
    if (more) {
      return making.end != null && end > making.end;
    }
    for (int i = end; i < 4096; i++) {
      if (making.bytes[i] != null) {
        return true;
      }
    }
    return making.end != null && making.end != end;
  }

  private byte[] whole(Making making) {
    if (making.end == null) {
      return null;
    }
    byte[] bytes = new byte[making.end];
    for (int i = 0; i < bytes.length; i++) {
      if (making.bytes[i] == null) {
        return null;
      }
      bytes[i] = making.bytes[i];
    }
    makings.remove(making);
    counts[1]++;
    return bytes;
  }

  private void echo(int from, byte[] message) {
    if (message.length < 8 || message.length > 1480 || Kit.sum(message) != 0 || Kit.two(message, 0) != 0x0800) {
      return;
    }
    byte[] rest = Kit.slice(message, 4, message.length);
    send(from, 1, Kit.join(new byte[2], Kit.two(Kit.sum(rest)), rest));
  }
}
