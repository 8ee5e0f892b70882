import java.util.Arrays;

/**
 * A machine that is nothing but a web server: frames come in, frames go out, and all that it sends
 * follows from its image, the frames that arrived and their times.
 */
public final class WebHost {
  private static final int TRAY_MOST = 65540;
  private static final int IMAGE_MOST = 65535;
  private static final int FRAME_MOST = 1514;
  private static final int FRAME_LEAST = 60;
  private static final int ARP_FRAME = 42;
  private static final int PACKET_AT = 14;
  private static final int PAYLOAD_AT = 34;
  private static final int PAYLOAD_MOST = 1480;
  private static final int STEP_MOST = 600000;
  private static final int TIME_MOST = 2000000000;
  private static final int TURNS_MOST = 1000000;
  private static final long NO_NUMBER = 4294967296L;

  /** Above every time that can be reached, so that what is off is never due. */
  private static final int NEVER = 2147483647;

  private static final int KIND_ARP = 0x0806;
  private static final int KIND_IP = 0x0800;
  private static final int ICMP = 1;
  private static final int TCP = 6;

  private static final int FIN = 1;
  private static final int SYN = 2;
  private static final int RST = 4;
  private static final int PSH = 8;
  private static final int ACK = 16;
  private static final int WEB_PORT = 80;
  private static final int PLACES = 16;

  private static final int NONE = 0;
  private static final int SYN_RECEIVED = 1;
  private static final int ESTABLISHED = 2;
  private static final int FIN_WAIT_1 = 3;
  private static final int FIN_WAIT_2 = 4;
  private static final int CLOSING = 5;
  private static final int TIME_WAIT = 6;
  private static final int CLOSE_WAIT = 7;
  private static final int LAST_ACK = 8;

  private static final int FRAMES_ARRIVED = 0;
  private static final int PUT_TOGETHER = 1;
  private static final int RESETS = 2;
  private static final int SENT_AGAIN = 3;
  private static final int ANSWERS = 4;
  private static final int BEGUN = 5;
  private static final int NEW_ACKS = 6;
  private static final int BYTES_ACKED = 7;
  private static final int COUNTS = 8;

  private final Store store;
  private final Wire wire;
  private final Link link;
  private final Intake intake;
  private final Tcp tcp;
  private final Requests requests;
  private byte[] tray;
  private int fed;
  private boolean booted;

  public WebHost() {
    store = new Store();
    wire = new Wire();
    link = new Link(wire);
    intake = new Intake(wire, link);
    tcp = new Tcp(wire, link, store, intake);
    requests = new Requests(store, wire);
    tray = new byte[80];
  }

  public int feed(int a, int b, int c, int d, int e) {
    if (fed + 20 > TRAY_MOST) {
      return -1;
    }
    if (fed + 20 > tray.length) {
      tray = Arrays.copyOf(tray, Math.min(2 * tray.length + 20, TRAY_MOST));
    }
    putFour(tray, fed, a);
    putFour(tray, fed + 4, b);
    putFour(tray, fed + 8, c);
    putFour(tray, fed + 12, d);
    putFour(tray, fed + 16, e);
    fed += 20;
    return fed;
  }

  public int end(int n) {
    if (n < 0 || n > fed) {
      return -1;
    }
    fed = n;
    return n;
  }

  public int install() {
    if (fed > IMAGE_MOST) {
      return -1;
    }
    int n = fed;
    store.keep(tray, n);
    fed = 0;
    booted = false;
    return n;
  }

  public int boot(int ip, int bits, int gateway, int high, int low) {
    if (bits < 8 || bits > 30 || !isHostNumber(ip)) {
      return -1;
    }
    int mask = -1 << (32 - bits);
    if (((ip ^ gateway) & mask) != 0 || gateway == ip || (high & 0x0100) != 0) {
      return -2;
    }
    if (!store.isRight()) {
      return -3;
    }
    store.keepEntries();
    wire.restart();
    link.restart(ip, mask, gateway, high & 0xFFFF, low);
    intake.restart();
    tcp.restart();
    booted = true;
    return store.files;
  }

  public int arrive(int time) {
    int refused = refusal(time);
    if (refused != 0) {
      return refused;
    }
    if (fed < 1 || fed > FRAME_MOST) {
      return -3;
    }
    int before = wire.total;
    goOn(time);
    wire.counts[FRAMES_ARRIVED]++;
    int kind = intake.read(tray, fed);
    if (kind == KIND_ARP) {
      link.takeArp(tray, fed);
    } else if (kind == ICMP) {
      intake.echo();
    } else if (kind == TCP && intake.readSegment()) {
      Connection c = tcp.take();
      if (c != null) {
        requests.lookAt(c);
        tcp.sendAllDue(c);
      }
    }
    fed = 0;
    return wire.total - before;
  }

  public int pass(int time) {
    int refused = refusal(time);
    if (refused != 0) {
      return refused;
    }
    int before = wire.total;
    goOn(time);
    return wire.total - before;
  }

  public int now() {
    return booted ? wire.now : -1;
  }

  public int sent() {
    return booted ? wire.total : -1;
  }

  public int length(int i) {
    Packet frame = frameBack(i);
    return frame == null ? -1 : frame.length;
  }

  public int at(int i, int k) {
    Packet frame = frameBack(i);
    if (frame == null || k < 0 || k >= frame.length || k >= frame.bytes.length) {
      return -1;
    }
    return frame.bytes[k] & 255;
  }

  public int time(int i) {
    Packet frame = frameBack(i);
    return frame == null ? -1 : frame.time;
  }

  public int state(int place) {
    if (place < 0 || place >= PLACES) {
      return -1;
    }
    Connection c = connectionAt(place);
    return c == null ? NONE : c.state;
  }

  public long look(int place, int what) {
    Connection c = connectionAt(place);
    if (c == null || what < 0 || what > 14) {
      return NO_NUMBER;
    }
    return c.number(what) & 0xFFFFFFFFL;
  }

  public boolean cached(int ip) {
    return booted && link.counting(ip) >= 0;
  }

  public int waiting() {
    return booted ? link.waits : 0;
  }

  public int counted(int what) {
    if (!booted || what < 0 || what >= COUNTS) {
      return -1;
    }
    return wire.counts[what];
  }

  public boolean damage(int place, int value) {
    if (place < 0 || place >= store.image.length || booted && tcp.isBusy()) {
      return false;
    }
    store.image[place] = (byte) value;
    return true;
  }

  public int strays() {
    return booted ? wire.strays : 0;
  }

  private int refusal(int time) {
    if (!booted) {
      return -1;
    }
    if (time < wire.now || time > TIME_MOST || time - wire.now > STEP_MOST) {
      return -2;
    }
    return 0;
  }

  /** Lets all that is due up to a time happen, one thing at a turn, since each may set new times. */
  private void goOn(int time) {
    for (int turn = 0; turn < TURNS_MOST; turn++) {
      int due = Math.min(link.earliest(), Math.min(intake.earliest(), tcp.earliest()));
      if (due > time) {
        break;
      }
      wire.now = due;
      if (link.repeat(due) || intake.expire(due)) {
        continue;
      }
      Connection c = tcp.dueFirst(due);
      if (c == null) {
        break;
      }
      if (c.pace.timer == due) {
        tcp.runOut(c);
      } else {
        c.endLife();
        tcp.sendWhatMay(c);
      }
    }
    wire.now = time;
  }

  private Packet frameBack(int i) {
    return booted ? wire.back(i) : null;
  }

  private Connection connectionAt(int place) {
    return booted ? tcp.connectionAt(place) : null;
  }

  private static boolean isHostNumber(int ip) {
    int first = ip >>> 24;
    return first >= 1 && first <= 223 && first != 127;
  }

  /** Guarded like all of these helpers, so that no frame, however short, is read beyond its row. */
  private static int one(byte[] bytes, int i) {
    return i >= 0 && i < bytes.length ? bytes[i] & 255 : 0;
  }

  private static int two(byte[] bytes, int i) {
    if (i < 0 || i > bytes.length - 2) {
      return 0;
    }
    return (bytes[i] & 255) << 8 | bytes[i + 1] & 255;
  }

  private static int four(byte[] bytes, int i) {
    if (i < 0 || i > bytes.length - 4) {
      return 0;
    }
    return bytes[i] << 24 | (bytes[i + 1] & 255) << 16 | (bytes[i + 2] & 255) << 8 | bytes[i + 3] & 255;
  }

  private static void putTwo(byte[] bytes, int i, int value) {
    if (i >= 0 && i <= bytes.length - 2) {
      bytes[i] = (byte) (value >> 8);
      bytes[i + 1] = (byte) value;
    }
  }

  private static void putFour(byte[] bytes, int i, int value) {
    if (i >= 0 && i <= bytes.length - 4) {
      bytes[i] = (byte) (value >> 24);
      bytes[i + 1] = (byte) (value >> 16);
      bytes[i + 2] = (byte) (value >> 8);
      bytes[i + 3] = (byte) value;
    }
  }

  /** The sum of 16 bits before its bits are turned over: bytes that hold their own sum give 65535. */
  private static int added(byte[] bytes, int from, int length, int start) {
    int sum = start;
    int end = Math.min(from + length, bytes.length);
    for (int i = Math.max(from, 0); i < end; i += 2) {
      sum += (bytes[i] & 255) << 8;
      if (i + 1 < end) {
        sum += bytes[i + 1] & 255;
      }
    }
    sum = (sum & 0xFFFF) + (sum >>> 16);
    return (sum & 0xFFFF) + (sum >>> 16);
  }

  /** The small hexadecimal digit of the lowest four bits. */
  private static int hexCode(int value) {
    int digit = value & 15;
    return digit < 10 ? '0' + digit : 'a' + digit - 10;
  }

  /** What the numbers of both sides, the protocol and the length add to a segment's sum. */
  private static int pseudoSum(int ip, int other, int length) {
    return (ip >>> 16) + (ip & 0xFFFF) + (other >>> 16) + (other & 0xFFFF) + TCP + length;
  }

  /** The image of files, and its entries as they were at boot: damage may change them later. */
  private static final class Store {
    private static final int SIGN = 0x53544F52;
    private static final int HEAD = 8;
    private static final int ENTRY = 64;
    private static final int NAME = 48;
    private static final int FILES_MOST = 64;

    /** Four of the check's eight steps at once, for each value of the lowest four bits. */
    private static final int[] CHECK_STEPS = {
      0x00000000, 0x1DB71064, 0x3B6E20C8, 0x26D930AC, 0x76DC4190, 0x6B6B51F4, 0x4DB26158, 0x5005713C,
      0xEDB88320, 0xF00F9344, 0xD6D6A3E8, 0xCB61B38C, 0x9B64C2B0, 0x86D3D2D4, 0xA00AE278, 0xBDBDF21C
    };

    byte[] image;
    int files;
    private byte[] entries;

    Store() {
      image = new byte[0];
      entries = new byte[0];
    }

    void keep(byte[] bytes, int n) {
      if (n >= 0) {
        image = Arrays.copyOf(bytes, n);
      }
    }

    boolean isRight() {
      if (four(image, 0) != SIGN || two(image, 6) != 0) {
        return false;
      }
      int n = two(image, 4);
      int end = HEAD + ENTRY * n;
      if (n > FILES_MOST || image.length < end + 4 || four(image, end) != checkOf(0, end)) {
        return false;
      }
      for (int i = 0; i < n; i++) {
        int entry = HEAD + ENTRY * i;
        if (!hasRightName(entry) || !liesWithin(entry) || isNamedBefore(entry)) {
          return false;
        }
      }
      return true;
    }

    private boolean hasRightName(int entry) {
      if (one(image, entry) != '/' || one(image, entry + NAME - 1) != 0) {
        return false;
      }
      boolean ended = false;
      for (int k = 1; k < NAME; k++) {
        int code = one(image, entry + k);
        ended = ended || code == 0;
        if (ended ? code != 0 : code < 33 || code > 126) {
          return false;
        }
      }
      return true;
    }

    private boolean liesWithin(int entry) {
      long place = four(image, entry + NAME) & 0xFFFFFFFFL;
      long length = four(image, entry + NAME + 4) & 0xFFFFFFFFL;
      return place + length <= image.length && four(image, entry + NAME + 12) == 0;
    }

    private boolean isNamedBefore(int entry) {
      for (int other = HEAD; other < entry; other += ENTRY) {
        int k = 0;
        while (k < NAME && one(image, other + k) == one(image, entry + k)) {
          k++;
        }
        if (k == NAME) {
          return true;
        }
      }
      return false;
    }

    void keepEntries() {
      int n = two(image, 4);
      int size = n * ENTRY;
      if (n > FILES_MOST || image.length < HEAD + size) {
        return;
      }
      if (entries.length < size) {
        entries = new byte[size];
      }
      System.arraycopy(image, HEAD, entries, 0, size);
      files = n;
    }

    /** The file of a name, -1 if there is none. */
    int find(byte[] name, int length) {
      for (int i = 0; i < files; i++) {
        int k = 0;
        while (k < NAME && one(entries, i * ENTRY + k) == (k < length ? one(name, k) : 0)) {
          k++;
        }
        if (k == NAME) {
          return i;
        }
      }
      return -1;
    }

    int placeOf(int file) {
      return four(entries, file * ENTRY + NAME);
    }

    int sizeOf(int file) {
      return four(entries, file * ENTRY + NAME + 4);
    }

    int markOf(int file) {
      return four(entries, file * ENTRY + NAME + 8);
    }

    boolean isWhole(int file) {
      return checkOf(placeOf(file), sizeOf(file)) == markOf(file);
    }

    private int checkOf(int from, int length) {
      int check = -1;
      int end = Math.min(from + length, image.length);
      for (int i = Math.max(from, 0); i < end; i++) {
        check ^= image[i] & 255;
        check = check >>> 4 ^ CHECK_STEPS[check & 15];
        check = check >>> 4 ^ CHECK_STEPS[check & 15];
      }
      return ~check;
    }
  }

  /** A frame that was sent, or one that waits for its hop. */
  private static final class Packet {
    final byte[] bytes;
    int length;
    int time;
    int hop;
    int asked;

    Packet() {
      bytes = new byte[FRAME_MOST];
    }
  }

  /** The present time, the latest frames sent, and what is counted. */
  private static final class Wire {
    private static final int KEPT = 32;

    final int[] counts;
    int now;
    int total;
    int strays;
    private final Packet[] ring;

    Wire() {
      counts = new int[COUNTS];
      ring = new Packet[KEPT];
    }

    void restart() {
      Arrays.fill(counts, 0);
      now = 0;
      total = 0;
      strays = 0;
    }

    void put(byte[] bytes, int length) {
      if (length < ARP_FRAME || length > FRAME_MOST || length > bytes.length) {
        strays++;
        return;
      }
      int slot = total % KEPT;
      if (slot < 0) {
        return;
      }
      Packet frame = ring[slot];
      if (frame == null) {
        frame = new Packet();
        ring[slot] = frame;
      }
      System.arraycopy(bytes, 0, frame.bytes, 0, length);
      for (int i = length; i < FRAME_LEAST; i++) {
        frame.bytes[i] = 0;
      }
      frame.length = Math.max(length, FRAME_LEAST);
      frame.time = now;
      total++;
    }

    Packet back(int i) {
      if (i < 0 || i >= KEPT || i >= total) {
        return null;
      }
      return ring[(total - 1 - i) % KEPT];
    }
  }

  /** Our numbers, the cache of addresses, and the packets that go out or wait for their hop. */
  private static final class Link {
    private static final int ENTRIES = 16;
    private static final int ENTRY_LIFE = 60000;
    private static final int HOPS = 8;
    private static final int ASK_EVERY = 1000;
    private static final int ASKS = 3;
    private static final int ASK = 1;
    private static final int TELL = 2;

    final byte[] out;
    int ip;
    int high;
    int low;
    int waits;
    private final Wire wire;
    private int mask;
    private int gateway;
    private int nextId;
    private int entries;
    private final int[] entryIp;
    private final int[] entryHigh;
    private final int[] entryLow;
    private final int[] entryTime;
    private final Packet[] waiters;

    Link(Wire wire) {
      this.wire = wire;
      out = new byte[FRAME_MOST];
      entryIp = new int[ENTRIES];
      entryHigh = new int[ENTRIES];
      entryLow = new int[ENTRIES];
      entryTime = new int[ENTRIES];
      waiters = new Packet[HOPS];
    }

    void restart(int ip, int mask, int gateway, int high, int low) {
      this.ip = ip;
      this.mask = mask;
      this.gateway = gateway;
      this.high = high;
      this.low = low;
      nextId = 1;
      entries = 0;
      waits = 0;
    }

    /** The entry of a number if it counts now, else -1. */
    int counting(int number) {
      int entry = entryOf(number);
      return entry >= 0 && wire.now - entryTime[entry] < ENTRY_LIFE ? entry : -1;
    }

    private int entryOf(int number) {
      for (int i = 0; i < entries && i < ENTRIES; i++) {
        if (entryIp[i] == number) {
          return i;
        }
      }
      return -1;
    }

    void takeArp(byte[] frame, int length) {
      if (length < ARP_FRAME || four(frame, 14) != 0x00010800 || two(frame, 18) != 0x0604) {
        return;
      }
      int operation = two(frame, 20);
      if (operation != ASK && operation != TELL) {
        return;
      }
      int number = four(frame, 28);
      boolean toUs = four(frame, 38) == ip;
      int entry = entryOf(number);
      if (entry < 0 && toUs && number != ip) {
        entry = newEntry();
      }
      if (entry >= 0) {
        entryIp[entry] = number;
        entryHigh[entry] = two(frame, 22);
        entryLow[entry] = four(frame, 24);
        entryTime[entry] = wire.now;
        release(number, entry);
      }
      if (toUs && operation == ASK) {
        fillArp(TELL, two(frame, 22), four(frame, 24), number);
        fillLink(out, two(frame, 22), four(frame, 24), KIND_ARP);
        wire.put(out, ARP_FRAME);
      }
    }

    private int newEntry() {
      if (entries < ENTRIES) {
        return entries++;
      }
      int oldest = 0;
      for (int i = 1; i < ENTRIES; i++) {
        if (entryTime[i] < entryTime[oldest]) {
          oldest = i;
        }
      }
      return oldest;
    }

    private void release(int hop, int entry) {
      int i = waiterFor(hop);
      if (i < 0) {
        return;
      }
      Packet packet = waiters[i];
      dropWaiter(i);
      if (packet != null) {
        fillLink(packet.bytes, entryHigh[entry], entryLow[entry], KIND_IP);
        wire.put(packet.bytes, packet.length);
      }
    }

    /** Sends the payload that lies in out behind the room for the headers. */
    void send(int to, int protocol, int length) {
      if (length < 0 || length > PAYLOAD_MOST) {
        return;
      }
      fillHeader(to, protocol, length);
      int hop = ((to ^ ip) & mask) == 0 ? to : gateway;
      int entry = counting(hop);
      if (entry >= 0) {
        fillLink(out, entryHigh[entry], entryLow[entry], KIND_IP);
        wire.put(out, PAYLOAD_AT + length);
      } else if (letWait(hop, PAYLOAD_AT + length)) {
        fillAsk(hop);
        wire.put(out, ARP_FRAME);
      }
    }

    private void fillHeader(int to, int protocol, int length) {
      putTwo(out, PACKET_AT, 0x4500);
      putTwo(out, PACKET_AT + 2, 20 + length);
      putTwo(out, PACKET_AT + 4, nextId);
      putTwo(out, PACKET_AT + 6, 0x4000);
      putTwo(out, PACKET_AT + 8, 64 << 8 | protocol);
      putTwo(out, PACKET_AT + 10, 0);
      putFour(out, PACKET_AT + 12, ip);
      putFour(out, PACKET_AT + 16, to);
      putTwo(out, PACKET_AT + 10, ~added(out, PACKET_AT, 20, 0));
      nextId = nextId + 1 & 0xFFFF;
    }

    private void fillLink(byte[] frame, int toHigh, int toLow, int kind) {
      putTwo(frame, 0, toHigh);
      putFour(frame, 2, toLow);
      putTwo(frame, 6, high);
      putFour(frame, 8, low);
      putTwo(frame, 12, kind);
    }

    private void fillArp(int operation, int toHigh, int toLow, int target) {
      putFour(out, 14, 0x00010800);
      putTwo(out, 18, 0x0604);
      putTwo(out, 20, operation);
      putTwo(out, 22, high);
      putFour(out, 24, low);
      putFour(out, 28, ip);
      putTwo(out, 32, toHigh);
      putFour(out, 34, toLow);
      putFour(out, 38, target);
    }

    private void fillAsk(int hop) {
      fillArp(ASK, 0, 0, hop);
      fillLink(out, 0xFFFF, -1, KIND_ARP);
    }

    /** Keeps what is in out for a hop; whether the hop was not waited for, so that it must be asked. */
    private boolean letWait(int hop, int length) {
      int i = waiterFor(hop);
      boolean isNew = i < 0;
      if (isNew) {
        if (waits >= HOPS) {
          return false;
        }
        i = waits;
        waits++;
      }
      Packet packet = waiters[i];
      if (packet == null) {
        packet = new Packet();
        waiters[i] = packet;
      }
      if (isNew) {
        packet.hop = hop;
        packet.time = wire.now;
        packet.asked = 1;
      }
      System.arraycopy(out, 0, packet.bytes, 0, Math.min(length, FRAME_MOST));
      packet.length = length;
      return isNew;
    }

    private int waiterFor(int hop) {
      for (int i = 0; i < waits && i < HOPS; i++) {
        Packet packet = waiters[i];
        if (packet != null && packet.hop == hop) {
          return i;
        }
      }
      return -1;
    }

    /** Keeps the order in which hops were first waited for, and the row for later use. */
    private void dropWaiter(int i) {
      if (i < 0 || i >= waits) {
        return;
      }
      Packet gone = waiters[i];
      for (int k = i; k + 1 < waits && k + 1 < HOPS; k++) {
        waiters[k] = waiters[k + 1];
      }
      waits--;
      waiters[waits] = gone;
    }

    int earliest() {
      int due = NEVER;
      for (int i = 0; i < waits && i < HOPS; i++) {
        due = Math.min(due, dueOf(waiters[i]));
      }
      return due;
    }

    private static int dueOf(Packet packet) {
      return packet == null ? NEVER : packet.time + packet.asked * ASK_EVERY;
    }

    /** Asks again for the first hop that is due, or drops what waits for it; false if none is due. */
    boolean repeat(int due) {
      for (int i = 0; i < waits && i < HOPS; i++) {
        Packet packet = waiters[i];
        if (packet == null || dueOf(packet) != due) {
          continue;
        }
        if (packet.asked < ASKS) {
          packet.asked++;
          fillAsk(packet.hop);
          wire.put(out, ARP_FRAME);
        } else {
          dropWaiter(i);
        }
        return true;
      }
      return false;
    }
  }

  /** A datagram in the making, of fragments. */
  private static final class Datagram {
    static final int MOST = 4096;

    final byte[] bytes;
    int sender;
    int id;
    int protocol;
    int since;
    int end;
    private int have;
    private int reach;
    private final int[] there;

    Datagram() {
      bytes = new byte[MOST];
      there = new int[MOST / 32];
    }

    void begin(int sender, int id, int protocol, int since) {
      this.sender = sender;
      this.id = id;
      this.protocol = protocol;
      this.since = since;
      end = -1;
      have = 0;
      reach = 0;
      Arrays.fill(there, 0);
    }

    boolean isOf(int sender, int id, int protocol) {
      return this.sender == sender && this.id == id && this.protocol == protocol;
    }

    /** Whether a fragment up to a place fits what is known of the end. */
    boolean agrees(int upTo, boolean more) {
      if (more) {
        return end < 0 || upTo <= end;
      }
      return end < 0 ? upTo >= reach : upTo == end;
    }

    void put(byte[] from, int place, int offset, int size) {
      for (int i = 0; i < size && offset + i < MOST; i++) {
        int k = offset + i;
        int bit = 1 << (k & 31);
        if (k >= 0 && (there[k >> 5] & bit) == 0) {
          there[k >> 5] |= bit;
          bytes[k] = (byte) one(from, place + i);
          have++;
        }
      }
      reach = Math.max(reach, offset + size);
    }

    boolean isWhole() {
      return end >= 0 && have == end;
    }
  }

  /** The frame that is looked at: read down to its packet, put together of fragments, and its segment. */
  private static final class Intake {
    private static final int DROPPED = 0;
    private static final int IN_MAKING_MOST = 4;
    private static final int MAKING_LIFE = 15000;
    private static final int MORE = 0x2000;
    private static final int OFFSET = 0x1FFF;
    private static final int MSS_MOST = 1460;
    private static final int MSS_LEAST = 64;
    private static final int MSS_UNTOLD = 536;

    byte[] body;
    int sender;
    int fromPort;
    int toPort;
    int seq;
    int ack;
    int flags;
    int window;
    int dataAt;
    int dataLength;
    private int place;
    private int size;
    private int protocol;
    private final Wire wire;
    private final Link link;
    private final Datagram[] making;
    private int inMaking;

    Intake(Wire wire, Link link) {
      this.wire = wire;
      this.link = link;
      body = new byte[0];
      making = new Datagram[IN_MAKING_MOST];
    }

    void restart() {
      inMaking = 0;
    }

    /** The kind of a frame if it is ARP, the protocol if it gave a whole packet, else 0. */
    int read(byte[] frame, int length) {
      if (length < PACKET_AT || !isForUs(frame)) {
        return DROPPED;
      }
      int kind = two(frame, 12);
      if (kind == KIND_ARP) {
        return KIND_ARP;
      }
      return kind == KIND_IP && readPacket(frame, length - PACKET_AT) ? protocol : DROPPED;
    }

    private boolean isForUs(byte[] frame) {
      int high = two(frame, 0);
      int low = four(frame, 2);
      return high == link.high && low == link.low || high == 0xFFFF && low == -1;
    }

    private boolean readPacket(byte[] frame, int carried) {
      int header = (one(frame, PACKET_AT) & 15) * 4;
      int total = two(frame, PACKET_AT + 2);
      if (carried < 20 || one(frame, PACKET_AT) >> 4 != 4 || header < 20) {
        return false;
      }
      if (total < header || total > carried || added(frame, PACKET_AT, header, 0) != 0xFFFF) {
        return false;
      }
      sender = four(frame, PACKET_AT + 12);
      if (four(frame, PACKET_AT + 16) != link.ip || sender == link.ip || !isHostNumber(sender)) {
        return false;
      }
      protocol = one(frame, PACKET_AT + 9);
      body = frame;
      place = PACKET_AT + header;
      size = total - header;
      int piece = two(frame, PACKET_AT + 6) & (MORE | OFFSET);
      return piece == 0 || gather(two(frame, PACKET_AT + 4), piece);
    }

    /** Whether a fragment made its datagram whole, which then is the body. */
    private boolean gather(int id, int piece) {
      boolean more = (piece & MORE) != 0;
      int offset = (piece & OFFSET) * 8;
      if (more && (size < 8 || size % 8 != 0) || offset + size > Datagram.MOST) {
        return false;
      }
      int i = indexOf(id);
      if (i < 0 || i >= IN_MAKING_MOST) {
        return false;
      }
      Datagram datagram = making[i];
      if (datagram == null) {
        return false;
      }
      if (!datagram.agrees(offset + size, more)) {
        dropDatagram(i);
        return false;
      }
      datagram.put(body, place, offset, size);
      if (!more) {
        datagram.end = offset + size;
      }
      if (!datagram.isWhole()) {
        return false;
      }
      dropDatagram(i);
      wire.counts[PUT_TOGETHER]++;
      body = datagram.bytes;
      place = 0;
      size = datagram.end;
      return true;
    }

    /** The datagram to which the fragment belongs, begun if need be; -1 if there is no room. */
    private int indexOf(int id) {
      for (int i = 0; i < inMaking && i < IN_MAKING_MOST; i++) {
        Datagram known = making[i];
        if (known != null && known.isOf(sender, id, protocol)) {
          return i;
        }
      }
      if (inMaking >= IN_MAKING_MOST) {
        return -1;
      }
      Datagram datagram = making[inMaking];
      if (datagram == null) {
        datagram = new Datagram();
        making[inMaking] = datagram;
      }
      datagram.begin(sender, id, protocol, wire.now);
      inMaking++;
      return inMaking - 1;
    }

    /** Keeps the order of the first fragments, and the row for later use. */
    private void dropDatagram(int i) {
      if (i < 0 || i >= inMaking) {
        return;
      }
      Datagram gone = making[i];
      for (int k = i; k + 1 < inMaking && k + 1 < IN_MAKING_MOST; k++) {
        making[k] = making[k + 1];
      }
      inMaking--;
      making[inMaking] = gone;
    }

    /** The first in the order is also the oldest. */
    int earliest() {
      Datagram first = making[0];
      return inMaking == 0 || first == null ? NEVER : first.since + MAKING_LIFE;
    }

    boolean expire(int due) {
      if (earliest() != due) {
        return false;
      }
      dropDatagram(0);
      return true;
    }

    void echo() {
      if (size < 8 || size > PAYLOAD_MOST || place < 0 || place + size > body.length) {
        return;
      }
      if (two(body, place) != 0x0800 || added(body, place, size, 0) != 0xFFFF) {
        return;
      }
      System.arraycopy(body, place, link.out, PAYLOAD_AT, size);
      putFour(link.out, PAYLOAD_AT, 0);
      putTwo(link.out, PAYLOAD_AT + 2, ~added(link.out, PAYLOAD_AT, size, 0));
      link.send(sender, ICMP, size);
    }

    /** Reads the body as a TCP segment; false if it is none. */
    boolean readSegment() {
      int header = (one(body, place + 12) >> 4) * 4;
      if (size < 20 || header < 20 || header > size) {
        return false;
      }
      if (added(body, place, size, pseudoSum(sender, link.ip, size)) != 0xFFFF) {
        return false;
      }
      fromPort = two(body, place);
      toPort = two(body, place + 2);
      seq = four(body, place + 4);
      ack = four(body, place + 8);
      flags = one(body, place + 13);
      window = two(body, place + 14);
      dataAt = place + header;
      dataLength = size - header;
      return true;
    }

    boolean has(int flag) {
      return (flags & flag) != 0;
    }

    /** How many sequence numbers the segment takes. */
    int span() {
      return dataLength + (has(SYN) ? 1 : 0) + (has(FIN) ? 1 : 0);
    }

    int mss() {
      int i = place + 20;
      while (i < dataAt) {
        int kind = one(body, i);
        if (kind == 0) {
          break;
        }
        int step = 1;
        if (kind != 1) {
          step = i + 1 < dataAt ? one(body, i + 1) : 0;
          if (step < 2 || i + step > dataAt) {
            break;
          }
          if (kind == 2 && step == 4) {
            return Math.max(MSS_LEAST, Math.min(MSS_MOST, two(body, i + 2)));
          }
        }
        i += step;
      }
      return MSS_UNTOLD;
    }
  }

  /** The row of what came to a connection: the place of a byte in it is its number's lowest 12 bits. */
  private static final class Came {
    static final int MOST = 4096;
    private static final int WORTH_TELLING = 2048;

    int read;
    int next;
    int told;
    int leftOut;
    boolean owed;
    private final byte[] row;
    private final int[] ahead;
    private boolean finKept;
    private boolean finTaken;
    private int finSeq;

    Came() {
      row = new byte[MOST];
      ahead = new int[MOST / 32];
    }

    void begin(int first) {
      read = first;
      next = first;
      told = MOST;
      leftOut = 0;
      owed = false;
      finKept = false;
      finTaken = false;
      Arrays.fill(ahead, 0);
    }

    int held() {
      return next - read - (finTaken ? 1 : 0);
    }

    int window() {
      return MOST - held();
    }

    boolean isInWindow(int seq) {
      return seq - next >= 0 && seq - (next + window()) < 0;
    }

    boolean accepts(Intake segment) {
      int span = segment.span();
      if (window() == 0) {
        return span == 0 && segment.seq == next;
      }
      return isInWindow(segment.seq) || span > 0 && isInWindow(segment.seq + span - 1);
    }

    /** Takes a segment's data and FIN; whether all up to the FIN was there then. */
    boolean take(Intake segment) {
      int fin = segment.seq + segment.dataLength;
      if (segment.has(FIN) && !finKept && isInWindow(fin)) {
        finKept = true;
        finSeq = fin;
      }
      if (segment.dataLength > 0 || segment.has(FIN)) {
        owed = true;
      }
      putAhead(segment);
      goOverWhatIsThere();
      if (!finKept || finTaken || next != finSeq) {
        return false;
      }
      next++;
      finTaken = true;
      return true;
    }

    private void putAhead(Intake segment) {
      int room = window();
      for (int i = 0; i < segment.dataLength; i++) {
        int seq = segment.seq + i;
        int offset = seq - next;
        int k = seq & (MOST - 1);
        int bit = 1 << (k & 31);
        if (offset >= 0 && offset < room && (ahead[k >> 5] & bit) == 0) {
          ahead[k >> 5] |= bit;
          row[k] = (byte) one(segment.body, segment.dataAt + i);
        }
      }
    }

    /** A byte that is in order is marked no more, so that its place is free again once it is taken. */
    private void goOverWhatIsThere() {
      for (int i = 0; i < MOST; i++) {
        int k = next & (MOST - 1);
        int bit = 1 << (k & 31);
        if ((ahead[k >> 5] & bit) == 0) {
          break;
        }
        ahead[k >> 5] &= ~bit;
        next++;
      }
    }

    int peek(int i) {
      return row[(read + i) & (MOST - 1)] & 255;
    }

    void leave(int n) {
      read += n;
      if (window() - told >= WORTH_TELLING) {
        owed = true;
      }
    }

    void leaveBody() {
      int n = Math.min(leftOut, held());
      if (n > 0) {
        leftOut -= n;
        leave(n);
      }
    }
  }

  /** How fast a connection may send, and when it sends again. */
  private static final class Pace {
    private static final int RTO_LEAST = 1000;
    private static final int RTO_MOST = 60000;
    private static final int CWND_MOST = 65535;
    private static final int SMALL_MSS = 1095;

    int mss;
    int cwnd;
    int ssthresh;
    int rto;
    int timer;
    int tries;
    int duplicates;
    boolean recovery;
    boolean timing;
    private int timedSeq;
    private int timedAt;
    private boolean measured;
    private int srtt;
    private int variation;

    void begin(int mss) {
      this.mss = mss;
      cwnd = mss <= SMALL_MSS ? 4 * mss : 3 * mss;
      ssthresh = CWND_MOST;
      rto = RTO_LEAST;
      timer = NEVER;
      tries = 0;
      duplicates = 0;
      recovery = false;
      timing = false;
      measured = false;
      srtt = 0;
      variation = 0;
    }

    void startTiming(int seq, int now) {
      if (!timing) {
        timing = true;
        timedSeq = seq;
        timedAt = now;
      }
    }

    void endTiming(int ack, int now) {
      if (!timing || ack - timedSeq <= 0) {
        return;
      }
      timing = false;
      int taken = now - timedAt;
      if (measured) {
        variation = (3 * variation + Math.abs(srtt - taken)) / 4;
        srtt = (7 * srtt + taken) / 8;
      } else {
        measured = true;
        srtt = taken;
        variation = taken / 2;
      }
      rto = Math.max(RTO_LEAST, Math.min(RTO_MOST, srtt + Math.max(10, 4 * variation)));
    }

    void grow(int bytes) {
      if (recovery) {
        recovery = false;
        cwnd = ssthresh;
      } else if (cwnd < ssthresh) {
        cwnd = Math.min(CWND_MOST, cwnd + Math.min(bytes, mss));
      } else {
        cwnd = Math.min(CWND_MOST, cwnd + Math.max(1, mss * mss / Math.max(1, cwnd)));
      }
    }

    /** Counts a duplicate; whether it is the one at which the first segment is sent again. */
    boolean countDuplicate(int sentNotAcked) {
      duplicates++;
      if (duplicates > 3) {
        cwnd = Math.min(CWND_MOST, cwnd + mss);
      }
      if (duplicates != 3) {
        return false;
      }
      lowerThreshold(sentNotAcked);
      cwnd = ssthresh + 3 * mss;
      recovery = true;
      return true;
    }

    void lowerThreshold(int sentNotAcked) {
      ssthresh = Math.max(sentNotAcked / 2, 2 * mss);
    }

    void backOff() {
      cwnd = mss;
      recovery = false;
      duplicates = 0;
      rto = Math.min(RTO_MOST, 2 * rto);
    }
  }

  /** A connection: its numbers, what came to it, and the answer that it sends. */
  private static final class Connection {
    private static final int LINGER = 60000;
    private static final int IDLE = 30000;
    private static final int HEAD_MOST = 256;

    int state;
    int ip;
    int port;
    int iss;
    int una;
    int at;
    int max;
    int window;
    int life;
    int quietSince;
    boolean closing;
    int bodyPlace;
    int bodyLength;
    int base;
    int headLength;
    final byte[] head;
    final Came came;
    final Pace pace;
    private int wl1;
    private int wl2;

    Connection() {
      head = new byte[HEAD_MOST];
      came = new Came();
      pace = new Pace();
    }

    void begin(Intake segment, int iss) {
      state = SYN_RECEIVED;
      ip = segment.sender;
      port = segment.fromPort;
      this.iss = iss;
      una = iss;
      at = iss + 1;
      max = iss + 1;
      window = segment.window;
      wl1 = segment.seq;
      wl2 = 0;
      clearAnswer(iss + 1);
      came.begin(segment.seq + 1);
      pace.begin(segment.mss());
    }

    void clearAnswer(int first) {
      base = first;
      headLength = 0;
      bodyPlace = 0;
      bodyLength = 0;
      closing = false;
    }

    void leave() {
      state = NONE;
      pace.timer = NEVER;
    }

    void write(String text) {
      for (int i = 0; i < text.length(); i++) {
        writeCode(text.charAt(i));
      }
    }

    void writeNumber(int number) {
      int unit = 1;
      while (unit <= number / 10 && unit < 1000000000) {
        unit *= 10;
      }
      for (; unit > 0; unit /= 10) {
        writeCode('0' + number / unit % 10);
      }
    }

    void writeMark(int check) {
      writeCode('"');
      for (int shift = 28; shift >= 0; shift -= 4) {
        writeCode(hexCode(check >>> shift));
      }
      writeCode('"');
    }

    private void writeCode(int code) {
      if (headLength < HEAD_MOST) {
        head[headLength] = (byte) code;
        headLength++;
      }
    }

    int dataEnd() {
      return base + headLength + bodyLength;
    }

    int left() {
      return dataEnd() - at + (closing ? 1 : 0);
    }

    boolean isBusy() {
      return left() > 0 || una != max;
    }

    /** Whether a request may be looked at. */
    boolean isReady() {
      return (state == ESTABLISHED || state == CLOSE_WAIT) && !closing && left() == 0 && at == una;
    }

    /** What one segment from a number on could hold: data, and the FIN right behind them. */
    private int segmentFrom(int seq) {
      int data = dataEnd() - seq;
      int n = Math.min(pace.mss, data);
      return n == data && closing ? n + 1 : n;
    }

    /** How much of what is left goes with the next segment; 0 if none may. */
    int mayGo() {
      int left = left();
      int flight = at - una;
      int n = Math.min(segmentFrom(at), Math.min(pace.cwnd, window) - flight);
      if (left <= 0 || n <= 0) {
        return 0;
      }
      boolean isFull = Math.min(n, dataEnd() - at) == pace.mss;
      return isFull || n == left || flight == 0 ? n : 0;
    }

    /** How much of what was sent goes again with one segment. */
    int goesAgain() {
      return Math.min(segmentFrom(una), max - una);
    }

    void advance(int n) {
      at += n;
      if (at - max > 0) {
        max = at;
      }
    }

    boolean isWindowNewer(Intake segment) {
      return wl1 - segment.seq < 0 || wl1 == segment.seq && segment.ack - wl2 >= 0;
    }

    void takeWindow(Intake segment) {
      window = segment.window;
      wl1 = segment.seq;
      wl2 = segment.ack;
    }

    void finGoes() {
      if (state == ESTABLISHED) {
        state = FIN_WAIT_1;
      } else if (state == CLOSE_WAIT) {
        state = LAST_ACK;
      }
    }

    void finIsAcknowledged(int now) {
      if (state == FIN_WAIT_1) {
        state = FIN_WAIT_2;
        life = now + LINGER;
      } else if (state == CLOSING) {
        linger(now);
      } else if (state == LAST_ACK) {
        leave();
      }
    }

    void otherSideEnds(int now) {
      if (state == ESTABLISHED) {
        state = CLOSE_WAIT;
      } else if (state == FIN_WAIT_1) {
        state = CLOSING;
      } else if (state == FIN_WAIT_2) {
        linger(now);
      }
    }

    void linger(int now) {
      state = TIME_WAIT;
      life = now + LINGER;
    }

    int lifeDue() {
      if (state == FIN_WAIT_2 || state == TIME_WAIT) {
        return life;
      }
      return state == ESTABLISHED && !isBusy() ? quietSince + IDLE : NEVER;
    }

    void endLife() {
      if (state == ESTABLISHED) {
        closing = true;
      } else {
        leave();
      }
    }

    /** Whether such a segment may be sent in this state; a right system never asks in vain. */
    boolean allows(int flags, int data) {
      if ((flags & SYN) != 0) {
        return state == SYN_RECEIVED && data == 0;
      }
      boolean sends = state == ESTABLISHED || state == CLOSE_WAIT || state == FIN_WAIT_1
          || state == CLOSING || state == LAST_ACK;
      return state != NONE && (sends || data == 0 && (flags & FIN) == 0);
    }

    int number(int what) {
      switch (what) {
        case 0: return ip;
        case 1: return port;
        case 2: return una;
        case 3: return at;
        case 4: return max;
        case 5: return came.next;
        case 6: return window;
        case 7: return pace.cwnd;
        case 8: return pace.ssthresh;
        case 9: return pace.rto;
        case 10: return pace.mss;
        case 11: return came.held();
        case 12: return left();
        case 13: return pace.tries;
        default: return pace.duplicates;
      }
    }
  }

  /** Keeps the connections: takes segments, sends segments, and lets timers run out. */
  private static final class Tcp {
    private static final int TRIES_MOST = 8;
    private static final int SYN_TRIES_MOST = 5;

    private final Wire wire;
    private final Link link;
    private final Store store;
    private final Intake segment;
    private final Connection[] places;

    Tcp(Wire wire, Link link, Store store, Intake segment) {
      this.wire = wire;
      this.link = link;
      this.store = store;
      this.segment = segment;
      places = new Connection[PLACES];
    }

    void restart() {
      for (int i = 0; i < PLACES; i++) {
        Connection c = places[i];
        if (c != null) {
          c.leave();
        }
      }
    }

    Connection connectionAt(int place) {
      if (place < 0 || place >= PLACES) {
        return null;
      }
      Connection c = places[place];
      return c == null || c.state == NONE ? null : c;
    }

    boolean isBusy() {
      for (int i = 0; i < PLACES; i++) {
        Connection c = connectionAt(i);
        if (c != null && c.isBusy()) {
          return true;
        }
      }
      return false;
    }

    int earliest() {
      int due = NEVER;
      for (int i = 0; i < PLACES; i++) {
        Connection c = connectionAt(i);
        if (c != null) {
          due = Math.min(due, Math.min(c.pace.timer, c.lifeDue()));
        }
      }
      return due;
    }

    Connection dueFirst(int due) {
      for (int i = 0; i < PLACES; i++) {
        Connection c = connectionAt(i);
        if (c != null && (c.pace.timer == due || c.lifeDue() == due)) {
          return c;
        }
      }
      return null;
    }

    /** Takes the segment; its connection, if requests are to be looked at and things may be sent then. */
    Connection take() {
      Connection c = connectionOfSegment();
      if (c == null) {
        takeWithoutConnection();
      } else if (!c.came.accepts(segment)) {
        refuse(c);
      } else if (segment.has(RST)) {
        c.leave();
      } else if (segment.has(SYN)) {
        reset();
        c.leave();
      } else if (segment.has(ACK) && (c.state == SYN_RECEIVED ? isOpened(c) : isAcknowledged(c))) {
        takeData(c);
        return c;
      }
      return null;
    }

    void sendAllDue(Connection c) {
      sendWhatMay(c);
      if (c.came.owed) {
        sendPlain(c, c.at, ACK);
      }
    }

    private Connection connectionOfSegment() {
      for (int i = 0; i < PLACES && segment.toPort == WEB_PORT; i++) {
        Connection c = connectionAt(i);
        if (c != null && c.ip == segment.sender && c.port == segment.fromPort) {
          return c;
        }
      }
      return null;
    }

    private void takeWithoutConnection() {
      if (segment.has(RST)) {
        return;
      }
      if (segment.toPort != WEB_PORT || segment.has(ACK)) {
        reset();
        return;
      }
      Connection c = segment.has(SYN) && !segment.has(FIN) ? freeConnection() : null;
      if (c == null) {
        return;
      }
      wire.counts[BEGUN]++;
      c.begin(segment, 64000 * wire.counts[BEGUN] + 250 * wire.now);
      c.pace.startTiming(c.iss, wire.now);
      c.pace.timer = wire.now + c.pace.rto;
      sendPlain(c, c.iss, SYN | ACK);
    }

    private Connection freeConnection() {
      for (int i = 0; i < PLACES; i++) {
        Connection c = places[i];
        if (c == null) {
          c = new Connection();
          places[i] = c;
        }
        if (c.state == NONE) {
          return c;
        }
      }
      return null;
    }

    private void refuse(Connection c) {
      if (segment.has(RST)) {
        return;
      }
      sendPlain(c, c.at, ACK);
      if (c.state == TIME_WAIT && segment.has(FIN)) {
        c.linger(wire.now);
      }
    }

    private void takeData(Connection c) {
      if (c.state == ESTABLISHED || c.state == FIN_WAIT_1 || c.state == FIN_WAIT_2) {
        if (segment.dataLength > 0) {
          c.quietSince = wire.now;
        }
        if (c.came.take(segment)) {
          c.otherSideEnds(wire.now);
        }
      } else if (c.state == TIME_WAIT && segment.has(FIN)) {
        c.linger(wire.now);
      }
    }

    private boolean isOpened(Connection c) {
      if (segment.ack != c.iss + 1) {
        reset();
        return false;
      }
      takeNew(c);
      c.takeWindow(segment);
      c.state = ESTABLISHED;
      return true;
    }

    /** Whether there is more to do with the segment once its acknowledgement was looked at. */
    private boolean isAcknowledged(Connection c) {
      if (segment.ack - c.max > 0) {
        sendPlain(c, c.at, ACK);
        return false;
      }
      if (segment.ack - c.una > 0) {
        takeNew(c);
      } else if (isDuplicate(c) && c.pace.countDuplicate(c.max - c.una)) {
        sendPart(c, c.una, c.goesAgain());
      }
      if (segment.ack - c.una >= 0) {
        if (c.isWindowNewer(segment)) {
          c.takeWindow(segment);
        }
        if (c.window == 0) {
          c.pace.tries = 0;
        }
      }
      if (c.closing && c.una == c.dataEnd() + 1) {
        c.finIsAcknowledged(wire.now);
      }
      return c.state != NONE;
    }

    private boolean isDuplicate(Connection c) {
      return segment.ack == c.una && segment.span() == 0 && segment.window == c.window && c.una - c.max < 0;
    }

    private void takeNew(Connection c) {
      int bytes = segment.ack - c.una;
      wire.counts[NEW_ACKS]++;
      wire.counts[BYTES_ACKED] += bytes;
      c.pace.endTiming(segment.ack, wire.now);
      if (c.state != SYN_RECEIVED) {
        c.pace.grow(bytes);
      }
      c.pace.tries = 0;
      c.pace.duplicates = 0;
      c.una = segment.ack;
      if (c.at - c.una < 0) {
        c.at = c.una;
      }
      c.pace.timer = c.una - c.max < 0 ? wire.now + c.pace.rto : NEVER;
      c.quietSince = wire.now;
    }

    void sendWhatMay(Connection c) {
      if (c.state == NONE) {
        return;
      }
      for (int turn = 0; turn < TURNS_MOST; turn++) {
        int n = c.mayGo();
        if (n <= 0) {
          break;
        }
        int seq = c.at;
        sendPart(c, seq, n);
        c.advance(n);
      }
      if (c.left() > 0 && c.at == c.una && c.window == 0 && c.pace.timer == NEVER) {
        c.pace.timer = wire.now + c.pace.rto;
      }
    }

    void runOut(Connection c) {
      boolean opening = c.state == SYN_RECEIVED;
      c.pace.tries++;
      if (c.pace.tries > (opening ? SYN_TRIES_MOST : TRIES_MOST)) {
        wire.counts[RESETS]++;
        sendPlain(c, c.at, RST | ACK);
        c.leave();
        return;
      }
      if (!opening) {
        c.pace.lowerThreshold(c.max - c.una);
      }
      c.pace.backOff();
      c.pace.timer = wire.now + c.pace.rto;
      if (opening) {
        wire.counts[SENT_AGAIN]++;
        c.pace.timing = false;
        sendPlain(c, c.iss, SYN | ACK);
        return;
      }
      c.at = c.una;
      int n = c.window == 0 ? 1 : c.mayGo();
      sendPart(c, c.at, n);
      c.advance(n);
    }

    /** Sends n numbers of the answer and its FIN from a number on. */
    private void sendPart(Connection c, int seq, int n) {
      int data = Math.min(n, c.dataEnd() - seq);
      if (n <= 0 || data < 0) {
        return;
      }
      int flags = ACK;
      if (data > 0 && seq + data == c.dataEnd()) {
        flags |= PSH;
      }
      if (n > data) {
        flags |= FIN;
        c.finGoes();
      }
      if (seq - c.max < 0) {
        wire.counts[SENT_AGAIN]++;
        c.pace.timing = false;
      } else {
        c.pace.startTiming(seq, wire.now);
      }
      if (c.pace.timer == NEVER) {
        c.pace.timer = wire.now + c.pace.rto;
      }
      copyAnswer(c, seq - c.base, data);
      link.send(c.ip, TCP, fill(c, seq, flags, data));
    }

    private void copyAnswer(Connection c, int offset, int data) {
      int to = PAYLOAD_AT + 20;
      if (offset < 0 || data < 0 || data > FRAME_MOST - to) {
        return;
      }
      int ofHead = Math.max(0, Math.min(data, c.headLength - offset));
      for (int i = 0; i < ofHead; i++) {
        link.out[to + i] = (byte) one(c.head, offset + i);
      }
      int from = c.bodyPlace + offset + ofHead - c.headLength;
      int ofBody = data - ofHead;
      if (ofBody > 0 && from >= 0 && from + ofBody <= store.image.length) {
        System.arraycopy(store.image, from, link.out, to + ofHead, ofBody);
      }
    }

    private void sendPlain(Connection c, int seq, int flags) {
      link.send(c.ip, TCP, fill(c, seq, flags, 0));
    }

    /** Puts the header before the data that are in place already; the length of both. */
    private int fill(Connection c, int seq, int flags, int data) {
      if (!c.allows(flags, data)) {
        wire.strays++;
      }
      int length = 20 + data;
      fillHeader(WEB_PORT, c.port, seq, c.came.next, flags, c.came.window());
      if ((flags & SYN) != 0) {
        link.out[PAYLOAD_AT + 12] = 6 << 4;
        putFour(link.out, PAYLOAD_AT + 20, 0x020405B4);
        length = 24;
      }
      if ((flags & RST) == 0) {
        c.came.told = c.came.window();
        c.came.owed = false;
      }
      sumUp(c.ip, length);
      return length;
    }

    private void fillHeader(int fromPort, int toPort, int seq, int ack, int flags, int window) {
      byte[] out = link.out;
      putTwo(out, PAYLOAD_AT, fromPort);
      putTwo(out, PAYLOAD_AT + 2, toPort);
      putFour(out, PAYLOAD_AT + 4, seq);
      putFour(out, PAYLOAD_AT + 8, ack);
      putTwo(out, PAYLOAD_AT + 12, 5 << 12 | flags);
      putTwo(out, PAYLOAD_AT + 14, window);
      putFour(out, PAYLOAD_AT + 16, 0);
    }

    private void sumUp(int to, int length) {
      int sum = added(link.out, PAYLOAD_AT, length, pseudoSum(link.ip, to, length));
      putTwo(link.out, PAYLOAD_AT + 16, ~sum);
    }

    private void reset() {
      wire.counts[RESETS]++;
      if (segment.has(ACK)) {
        fillHeader(segment.toPort, segment.fromPort, segment.ack, 0, RST, 0);
      } else {
        fillHeader(segment.toPort, segment.fromPort, 0, segment.seq + segment.span(), RST | ACK, 0);
      }
      sumUp(segment.sender, 20);
      link.send(segment.sender, TCP, 20);
    }
  }

  /** Reads requests from what came, and makes their answers. */
  private static final class Requests {
    private static final int GET = 0;
    private static final int HEAD = 1;
    private static final int OTHER = 2;
    private static final int METHOD_MOST = 16;
    private static final int NAME_MOST = 47;
    private static final int BODY_MOST = 65536;
    private static final int DIGITS_MOST = 9;

    private final Store store;
    private final Wire wire;
    private final byte[] head;
    private final byte[] path;
    private int pathLength;
    private int method;
    private boolean isOld;
    private int targetFrom;
    private int targetTo;
    private int hosts;
    private int codings;
    private int lengths;
    private int bodyLength;
    private int marks;
    private int markFrom;
    private int markTo;
    private boolean saysClose;
    private boolean saysKeep;
    private int file;

    Requests(Store store, Wire wire) {
      this.store = store;
      this.wire = wire;
      head = new byte[Came.MOST];
      path = new byte[NAME_MOST + 1];
    }

    void lookAt(Connection c) {
      Came came = c.came;
      came.leaveBody();
      if (!c.isReady()) {
        return;
      }
      int empty = emptyLines(came);
      if (empty > 0) {
        came.leave(empty);
      }
      int n = copyHead(came);
      if (n > 0) {
        came.leave(n);
        int number = readHead(n);
        give(c, number);
        came.leftOut = isBodyLeftOut(number) ? bodyLength : 0;
        came.leaveBody();
      } else if (came.held() >= Came.MOST) {
        came.leave(Came.MOST);
        forget();
        give(c, 431);
      } else if (c.state == CLOSE_WAIT) {
        c.closing = true;
      }
    }

    private static int emptyLines(Came came) {
      int held = came.held();
      int n = 0;
      while (n < held) {
        if (came.peek(n) == 10) {
          n++;
        } else if (came.peek(n) == 13 && n + 1 < held && came.peek(n + 1) == 10) {
          n += 2;
        } else {
          break;
        }
      }
      return n;
    }

    /** Copies what is held up to the first empty line; how much that is, 0 if there is none yet. */
    private int copyHead(Came came) {
      int held = Math.min(came.held(), head.length);
      int line = 0;
      for (int i = 0; i < held; i++) {
        head[i] = (byte) came.peek(i);
        if (head[i] == 10) {
          if (lineEnd(line, i) == line) {
            return i + 1;
          }
          line = i + 1;
        }
      }
      return 0;
    }

    /** Where a line ends whose 10 is at a place. */
    private int lineEnd(int from, int place) {
      return place > from && one(head, place - 1) == 13 ? place - 1 : place;
    }

    private void forget() {
      method = GET;
      isOld = false;
      hosts = 0;
      codings = 0;
      lengths = 0;
      bodyLength = 0;
      marks = 0;
      saysClose = false;
      saysKeep = false;
      file = -1;
    }

    /** Reads a head of n bytes; the number of its answer. */
    private int readHead(int n) {
      forget();
      int line = 0;
      for (int i = 0; i < n && i < head.length; i++) {
        if (head[i] != 10) {
          continue;
        }
        int to = lineEnd(line, i);
        if (to > line && (line == 0 ? !readRequestLine(to) : !readField(line, to))) {
          return 400;
        }
        line = i + 1;
      }
      return verdict();
    }

    private boolean readRequestLine(int to) {
      int blank = 0;
      while (blank < to && one(head, blank) >= 'A' && one(head, blank) <= 'Z') {
        blank++;
      }
      int second = blank + 1;
      while (second < to && one(head, second) > 32 && one(head, second) < 127) {
        second++;
      }
      if (blank < 1 || blank > METHOD_MOST || one(head, blank) != ' ' || one(head, blank + 1) != '/') {
        return false;
      }
      boolean isNew = isText(second, to, " HTTP/1.1");
      if (!isNew && !isText(second, to, " HTTP/1.0")) {
        return false;
      }
      isOld = !isNew;
      targetFrom = blank + 1;
      targetTo = second;
      method = isText(0, blank, "GET") ? GET : isText(0, blank, "HEAD") ? HEAD : OTHER;
      return true;
    }

    private boolean isText(int from, int to, String text) {
      if (to - from != text.length()) {
        return false;
      }
      for (int i = 0; i < text.length(); i++) {
        if (one(head, from + i) != text.charAt(i)) {
          return false;
        }
      }
      return true;
    }

    /** Whether letters, great or small, are those of a text of small ones. */
    private boolean isWord(int from, int to, String text) {
      if (to - from != text.length()) {
        return false;
      }
      for (int i = 0; i < text.length(); i++) {
        int code = one(head, from + i);
        if ((code >= 'A' && code <= 'Z' ? code + 32 : code) != text.charAt(i)) {
          return false;
        }
      }
      return true;
    }

    private boolean readField(int from, int to) {
      int colon = from;
      while (colon < to && isNameCode(one(head, colon))) {
        colon++;
      }
      if (colon == from || colon >= to || one(head, colon) != ':') {
        return false;
      }
      int first = colon + 1;
      while (first < to && isBlank(one(head, first))) {
        first++;
      }
      int last = to;
      while (last > first && isBlank(one(head, last - 1))) {
        last--;
      }
      for (int i = first; i < last; i++) {
        int code = one(head, i);
        if (code < 32 && code != 9 || code == 127) {
          return false;
        }
      }
      note(from, colon, first, last);
      return true;
    }

    private static boolean isNameCode(int code) {
      if (code >= 'a' && code <= 'z' || code >= 'A' && code <= 'Z' || code >= '0' && code <= '9') {
        return true;
      }
      return code < 128 && "-_.!#$%&'*+^`|~".indexOf((char) code) >= 0;
    }

    private static boolean isBlank(int code) {
      return code == ' ' || code == 9;
    }

    private void note(int name, int colon, int first, int last) {
      if (isWord(name, colon, "host")) {
        hosts++;
      } else if (isWord(name, colon, "transfer-encoding")) {
        codings++;
      } else if (isWord(name, colon, "content-length")) {
        lengths++;
        bodyLength = decimal(first, last);
      } else if (isWord(name, colon, "if-none-match")) {
        marks++;
        markFrom = first;
        markTo = last;
      } else if (isWord(name, colon, "connection")) {
        noteWords(first, last);
      }
    }

    /** The number of 1 to 9 digits, -1 if it is none. */
    private int decimal(int from, int to) {
      if (to <= from || to - from > DIGITS_MOST) {
        return -1;
      }
      int value = 0;
      for (int i = from; i < to; i++) {
        int digit = one(head, i) - '0';
        if (digit < 0 || digit > 9) {
          return -1;
        }
        value = value * 10 + digit;
      }
      return value;
    }

    private void noteWords(int from, int to) {
      int word = from;
      for (int i = from; i <= to; i++) {
        if (i < to && one(head, i) != ',' && !isBlank(one(head, i))) {
          continue;
        }
        saysClose = saysClose || isWord(word, i, "close");
        saysKeep = saysKeep || isWord(word, i, "keep-alive");
        word = i + 1;
      }
    }

    private int verdict() {
      if (isOld ? hosts > 1 : hosts != 1) {
        return 400;
      }
      if (codings > 0) {
        return 501;
      }
      if (lengths > 1 || bodyLength < 0) {
        return 400;
      }
      if (bodyLength > BODY_MOST) {
        return 413;
      }
      if (method == OTHER) {
        return 405;
      }
      if (!readPath()) {
        return 400;
      }
      file = pathLength > NAME_MOST ? -1 : store.find(path, pathLength);
      if (file < 0) {
        return 404;
      }
      if (!store.isWhole(file)) {
        return 500;
      }
      return marks == 1 && isMark() ? 304 : 200;
    }

    /** Reads the whole target for faults, though only a short path can be that of a file. */
    private boolean readPath() {
      pathLength = 0;
      int code = 0;
      for (int i = targetFrom; i < targetTo && one(head, i) != '?'; i++) {
        code = one(head, i);
        if (code == '%') {
          int high = i + 1 < targetTo ? hexDigit(one(head, i + 1)) : -1;
          int low = i + 2 < targetTo ? hexDigit(one(head, i + 2)) : -1;
          code = high << 4 | low;
          if (high < 0 || low < 0 || code < 33 || code > 126) {
            return false;
          }
          i += 2;
        }
        addToPath(code);
      }
      if (code == '/') {
        String index = "index.html";
        for (int i = 0; i < index.length(); i++) {
          addToPath(index.charAt(i));
        }
      }
      return true;
    }

    private void addToPath(int code) {
      if (pathLength < path.length) {
        path[pathLength] = (byte) code;
        pathLength++;
      }
    }

    private static int hexDigit(int code) {
      if (code >= '0' && code <= '9') {
        return code - '0';
      }
      if (code >= 'a' && code <= 'f') {
        return code - 'a' + 10;
      }
      return code >= 'A' && code <= 'F' ? code - 'A' + 10 : -1;
    }

    private boolean isMark() {
      if (isText(markFrom, markTo, "*")) {
        return true;
      }
      if (markTo - markFrom != 10 || one(head, markFrom) != '"' || one(head, markTo - 1) != '"') {
        return false;
      }
      int check = store.markOf(file);
      for (int i = 0; i < 8; i++) {
        if (one(head, markFrom + 1 + i) != hexCode(check >>> (28 - 4 * i))) {
          return false;
        }
      }
      return true;
    }

    private static boolean isBodyLeftOut(int number) {
      return number != 400 && number != 413 && number != 431 && number != 501;
    }

    private boolean isPersistent() {
      return !saysClose && (saysKeep || !isOld);
    }

    private void give(Connection c, int number) {
      wire.counts[ANSWERS]++;
      c.clearAnswer(c.at);
      c.closing = !isPersistent() || !isBodyLeftOut(number) || number == 500;
      String phrase = phrase(number);
      boolean isFile = number == 200;
      int size = isFile ? store.sizeOf(file) : phrase.length() + 5;
      c.write("HTTP/1.1 ");
      c.writeNumber(number);
      c.write(" ");
      c.write(phrase);
      if (number != 304) {
        c.write("\r\nContent-Length: ");
        c.writeNumber(size);
        c.write("\r\nContent-Type: ");
        c.write(isFile ? contentType() : "text/plain");
      }
      if (isFile || number == 304) {
        c.write("\r\nETag: ");
        c.writeMark(store.markOf(file));
      }
      if (number == 405) {
        c.write("\r\nAllow: GET, HEAD");
      }
      if (c.closing) {
        c.write("\r\nConnection: close");
      }
      c.write("\r\n\r\n");
      if (number != 304 && method != HEAD) {
        giveBody(c, number, size);
      }
    }

    private void giveBody(Connection c, int number, int size) {
      if (number == 200) {
        c.bodyPlace = store.placeOf(file);
        c.bodyLength = size;
        return;
      }
      c.writeNumber(number);
      c.write(" ");
      c.write(phrase(number));
      c.write("\n");
    }

    private static String phrase(int number) {
      switch (number) {
        case 200: return "OK";
        case 304: return "Not Modified";
        case 400: return "Bad Request";
        case 404: return "Not Found";
        case 405: return "Method Not Allowed";
        case 413: return "Content Too Large";
        case 431: return "Request Header Fields Too Large";
        case 500: return "Internal Server Error";
        default: return "Not Implemented";
      }
    }

    private String contentType() {
      if (pathEndsWith(".html")) {
        return "text/html";
      }
      if (pathEndsWith(".css")) {
        return "text/css";
      }
      if (pathEndsWith(".js")) {
        return "text/javascript";
      }
      if (pathEndsWith(".txt")) {
        return "text/plain";
      }
      return pathEndsWith(".png") ? "image/png" : "application/octet-stream";
    }

    private boolean pathEndsWith(String ending) {
      int from = pathLength - ending.length();
      if (from < 0) {
        return false;
      }
      for (int i = 0; i < ending.length(); i++) {
        if (one(path, from + i) != ending.charAt(i)) {
          return false;
        }
      }
      return true;
    }
  }
}
