import java.util.HashMap;
import java.util.Map;

/** The connections of the model. */
final class ModelTcp {
  static final int SYN_RECEIVED = 1;
  static final int ESTABLISHED = 2;
  static final int FIN_WAIT_1 = 3;
  static final int FIN_WAIT_2 = 4;
  static final int CLOSING = 5;
  static final int TIME_WAIT = 6;
  static final int CLOSE_WAIT = 7;
  static final int LAST_ACK = 8;
  private static final byte[] NOTHING = new byte[0];
  private static final byte[] MSS_1460 = Kit.hex("020405b4");

  /** A connection; numbers that may not be there are Integers. */
  static final class Connection {
    int state;
    int ip;
    int port;
    int iss;
    int una;
    int at;
    int max;
    int next;
    int window;
    int wl1;
    int wl2;
    int mss;
    int cwnd;
    int ssthresh = 65535;
    int rto = 1000;
    int tries;
    int duplicates;
    boolean recovery;
    Integer timer;
    int life;
    int quietSince;
    Integer timedFrom;
    int timedSince;
    Integer srtt;
    int var;
    int read;
    int told;
    boolean owed;
    Integer fin;
    boolean finTaken;
    final Map<Integer, Byte> row = new HashMap<>();
    byte[] answer = NOTHING;
    int answerAt;
    boolean closingDown;
    int leaveOut;

    int held() {
      return next - read - (finTaken ? 1 : 0);
    }

    int w() {
      return 4096 - held();
    }

    int dataEnd() {
      return answerAt + answer.length;
    }

    int left() {
      return dataEnd() - at + (closingDown ? 1 : 0);
    }

    boolean isInWindow(int number) {
      return !isBefore(number, next) && isBefore(number, next + w());
    }

    int[] numbers() {
      return new int[] {ip, port, una, at, max, next, window, cwnd, ssthresh, rto, mss, held(), left(), tries, duplicates};
    }

    /** When its life ends, if it does. */
    int lifeEnd() {
      if (state == TIME_WAIT || state == FIN_WAIT_2) {
        return life;
      }
      return state == ESTABLISHED && left() == 0 && una == max ? quietSince + 30000 : Integer.MAX_VALUE;
    }

    void takeBytes(int n) {
      for (int i = 0; i < n; i++) {
        row.remove(read + i);
      }
      read += n;
      owed = owed || n > 0 && w() - told >= 2048;
    }

    void leaveBody() {
      int n = Math.min(leaveOut, held());
      leaveOut -= n;
      takeBytes(n);
    }
  }

  final Connection[] places = new Connection[16];
  private final Model host;
  private final ModelWeb web;
  private int from;
  private int fromPort;
  private int toPort;
  private int seq;
  private int ack;
  private int flags;
  private int window;
  private byte[] options;
  private byte[] data;

  ModelTcp(Model host) {
    this.host = host;
    web = new ModelWeb(host);
  }

  static boolean isBefore(int a, int b) {
    return a - b < 0;
  }

  static boolean isBehind(int a, int b) {
    return a - b > 0;
  }

  void clear() {
    java.util.Arrays.fill(places, null);
  }

  boolean isBusy() {
    for (Connection c : places) {
      if (c != null && (c.left() > 0 || c.una != c.max)) {
        return true;
      }
    }
    return false;
  }

  int due() {
    int due = Integer.MAX_VALUE;
    for (Connection c : places) {
      if (c != null) {
        due = Math.min(due, c.lifeEnd());
        due = c.timer == null ? due : Math.min(due, c.timer);
      }
    }
    return due;
  }

  void happen() {
    for (Connection c : places) {
      if (c == null) {
        continue;
      }
      if (c.timer != null && c.timer == host.now) {
        runOut(c);
        return;
      }
      if (c.lifeEnd() == host.now) {
        if (c.state == ESTABLISHED) {
          c.closingDown = true;
          sendWhatMay(c);
        } else {
          goes(c);
        }
        return;
      }
    }
  }

  private void goes(Connection c) {
    for (int i = 0; i < 16; i++) {
      places[i] = places[i] == c ? null : places[i];
    }
  }

  private boolean has(int flag) {
    return (flags & flag) != 0;
  }

  private int length() {
    return data.length + (has(Peer.SYN) ? 1 : 0) + (has(Peer.FIN) ? 1 : 0);
  }

  void take(int sender, byte[] segment) {
    if (segment.length < 20) {
      return;
    }
    int header = (Kit.one(segment, 12) >> 4) * 4;
    if (header < 20 || header > segment.length) {
      return;
    }
    if (Kit.sum(Kit.join(Kit.four(sender), Kit.four(host.ip), Kit.two(6), Kit.two(segment.length), segment)) != 0) {
      return;
    }
    from = sender;
    fromPort = Kit.two(segment, 0);
    toPort = Kit.two(segment, 2);
    seq = Kit.four(segment, 4);
    ack = Kit.four(segment, 8);
    flags = Kit.one(segment, 13);
    window = Kit.two(segment, 14);
    options = Kit.slice(segment, 20, header);
    data = Kit.slice(segment, header, segment.length);
    for (Connection c : places) {
      if (toPort == 80 && c != null && c.ip == from && c.port == fromPort) {
        takeFor(c);
        return;
      }
    }
    takeWithoutConnection();
  }

  private void send(int[] ports, int number, int acknowledged, int flags, int window, byte[] rest) {
    int words = (flags & Peer.SYN) != 0 ? 6 : 5;
    byte[] head = Kit.join(Kit.two(ports[0]), Kit.two(ports[1]), Kit.four(number),
        Kit.four((flags & Peer.ACK) != 0 ? acknowledged : 0), Kit.two(words << 12 | flags), Kit.two(window));
    byte[] pseudo = Kit.join(Kit.four(host.ip), Kit.four(ports[2]), Kit.two(6), Kit.two(20 + rest.length));
    int sum = Kit.sum(Kit.join(pseudo, head, new byte[4], rest));
    host.send(ports[2], 6, Kit.join(head, Kit.two(sum), new byte[2], rest));
  }

  private void reset() {
    host.counts[2]++;
    int[] ports = {toPort, fromPort, from};
    if (has(Peer.ACK)) {
      send(ports, ack, 0, Peer.RST, 0, NOTHING);
    } else {
      send(ports, 0, seq + length(), Peer.RST | Peer.ACK, 0, NOTHING);
    }
  }

  private void sendFor(Connection c, int number, int flags, byte[] rest) {
    send(new int[] {80, c.port, c.ip}, number, c.next, flags, c.w(), rest);
    if ((flags & Peer.RST) == 0) {
      c.told = c.w();
      c.owed = false;
    }
  }

  private void acknowledge(Connection c) {
    sendFor(c, c.at, Peer.ACK, NOTHING);
  }

  private void takeWithoutConnection() {
    if (has(Peer.RST)) {
      return;
    }
    if (toPort != 80 || has(Peer.ACK)) {
      reset();
      return;
    }
    for (int i = 0; i < 16 && has(Peer.SYN) && !has(Peer.FIN); i++) {
      if (places[i] == null) {
        places[i] = begin();
        return;
      }
    }
  }

  private Connection begin() {
    Connection c = new Connection();
    host.counts[5]++;
    c.state = SYN_RECEIVED;
    c.ip = from;
    c.port = fromPort;
    c.next = seq + 1;
    c.read = c.next;
    c.iss = (int) (64000L * host.counts[5] + 250L * host.now);
    c.una = c.iss;
    c.at = c.iss + 1;
    c.max = c.iss + 1;
    c.answerAt = c.at;
    c.window = window;
    c.wl1 = seq;
    c.mss = mss();
    c.cwnd = c.mss <= 1095 ? 4 * c.mss : 3 * c.mss;
    c.timedFrom = c.iss;
    c.timedSince = host.now;
    c.timer = host.now + c.rto;
    sendFor(c, c.iss, Peer.SYN | Peer.ACK, MSS_1460);
    return c;
  }

  private int mss() {
    int i = 0;
    while (i < options.length && options[i] != 0) {
      if (options[i] == 1) {
        i++;
        continue;
      }
      int length = i + 1 < options.length ? Kit.one(options, i + 1) : 0;
      if (length < 2 || i + length > options.length) {
        break;
      }
      if (options[i] == 2 && length == 4) {
        return Math.min(1460, Math.max(64, Kit.two(options, i + 2)));
      }
      i += length;
    }
    return 536;
  }

  private boolean isAcceptable(Connection c) {
    if (c.w() == 0) {
      return length() == 0 && seq == c.next;
    }
    return c.isInWindow(seq) || length() > 0 && c.isInWindow(seq + length() - 1);
  }

  private void takeFor(Connection c) {
    if (!isAcceptable(c)) {
      if (!has(Peer.RST)) {
        acknowledge(c);
        c.life = c.state == TIME_WAIT && has(Peer.FIN) ? host.now + 60000 : c.life;
      }
    } else if (has(Peer.RST)) {
      goes(c);
    } else if (has(Peer.SYN)) {
      reset();
      goes(c);
    } else if (has(Peer.ACK) && (c.state == SYN_RECEIVED ? opens(c) : acknowledges(c))) {
      takeData(c);
      web.lookAt(c);
      sendWhatMay(c);
      if (c.owed) {
        acknowledge(c);
      }
    }
  }

  private void takeWindow(Connection c) {
    c.window = window;
    c.wl1 = seq;
    c.wl2 = ack;
  }

  private boolean opens(Connection c) {
    if (ack != c.iss + 1) {
      reset();
      return false;
    }
    takeNew(c);
    takeWindow(c);
    c.state = ESTABLISHED;
    return true;
  }

  /** Whether the connection is still there, and the segment not dropped. */
  private boolean acknowledges(Connection c) {
    if (isBehind(ack, c.max)) {
      acknowledge(c);
      return false;
    }
    if (isBehind(ack, c.una)) {
      takeNew(c);
    } else if (ack == c.una && length() == 0 && window == c.window && isBefore(c.una, c.max)) {
      takeDuplicate(c);
    }
    if (!isBefore(ack, c.una)) {
      if (isBefore(c.wl1, seq) || c.wl1 == seq && !isBefore(ack, c.wl2)) {
        takeWindow(c);
      }
      c.tries = c.window == 0 ? 0 : c.tries;
    }
    if (c.closingDown && c.una == c.dataEnd() + 1) {
      if (c.state == LAST_ACK) {
        goes(c);
        return false;
      }
      if (c.state == FIN_WAIT_1 || c.state == CLOSING) {
        c.state = c.state == FIN_WAIT_1 ? FIN_WAIT_2 : TIME_WAIT;
        c.life = host.now + 60000;
      }
    }
    return true;
  }

  private void takeData(Connection c) {
    if (c.state == TIME_WAIT && has(Peer.FIN)) {
      c.life = host.now + 60000;
    }
    if (c.state != ESTABLISHED && c.state != FIN_WAIT_1 && c.state != FIN_WAIT_2) {
      return;
    }
    int fin = seq + data.length;
    if (has(Peer.FIN) && c.fin == null && c.isInWindow(fin)) {
      c.fin = fin;
    }
    c.owed = c.owed || data.length > 0 || has(Peer.FIN);
    c.quietSince = data.length > 0 ? host.now : c.quietSince;
    for (int i = 0; i < data.length; i++) {
      if (c.isInWindow(seq + i)) {
        c.row.putIfAbsent(seq + i, data[i]);
      }
    }
    while (c.row.containsKey(c.next)) {
      c.next++;
    }
    if (c.fin != null && c.next == c.fin) {
      c.next++;
      c.finTaken = true;
      c.life = host.now + 60000;
      c.state = c.state == ESTABLISHED ? CLOSE_WAIT : c.state == FIN_WAIT_1 ? CLOSING : TIME_WAIT;
    }
  }

  private void takeNew(Connection c) {
    int bytes = ack - c.una;
    host.counts[6]++;
    host.counts[7] += bytes;
    c.una = ack;
    c.at = isBefore(c.at, c.una) ? c.una : c.at;
    c.tries = 0;
    c.duplicates = 0;
    c.quietSince = host.now;
    if (c.timedFrom != null && isBehind(ack, c.timedFrom)) {
      measure(c, host.now - c.timedSince);
    }
    if (c.state != SYN_RECEIVED) {
      if (c.recovery) {
        c.cwnd = c.ssthresh;
      } else {
        c.cwnd += c.cwnd < c.ssthresh ? Math.min(bytes, c.mss) : Math.max(1, c.mss * c.mss / c.cwnd);
      }
      c.recovery = false;
      c.cwnd = Math.min(c.cwnd, 65535);
    }
    c.timer = isBefore(c.una, c.max) ? Integer.valueOf(host.now + c.rto) : null;
  }

  private static void measure(Connection c, int r) {
    c.timedFrom = null;
    if (c.srtt == null) {
      c.srtt = r;
      c.var = r / 2;
    } else {
      c.var = (3 * c.var + Math.abs(c.srtt - r)) / 4;
      c.srtt = (7 * c.srtt + r) / 8;
    }
    c.rto = Math.min(60000, Math.max(1000, c.srtt + Math.max(10, 4 * c.var)));
  }

  private void takeDuplicate(Connection c) {
    c.duplicates++;
    if (c.duplicates == 3) {
      c.ssthresh = Math.max((c.max - c.una) / 2, 2 * c.mss);
      sendPart(c, c.una, Math.min(segmentAt(c, c.una), c.max - c.una));
      c.cwnd = c.ssthresh + 3 * c.mss;
      c.recovery = true;
    } else if (c.duplicates > 3) {
      c.cwnd = Math.min(65535, c.cwnd + c.mss);
    }
  }

  /** How many numbers a segment from one on could have, the FIN with the last of the data. */
  private static int segmentAt(Connection c, int number) {
    int n = Math.min(c.mss, c.dataEnd() - number);
    return c.closingDown && number + n == c.dataEnd() ? n + 1 : n;
  }

  private static int mayGo(Connection c) {
    int flight = c.at - c.una;
    int n = Math.min(segmentAt(c, c.at), Math.min(c.cwnd, c.window) - flight);
    boolean isFull = Math.min(n, c.dataEnd() - c.at) == c.mss;
    return c.left() > 0 && n > 0 && (isFull || n == c.left() || flight == 0) ? n : 0;
  }

  private void sendWhatMay(Connection c) {
    while (mayGo(c) > 0) {
      sendNext(c, mayGo(c));
    }
    if (c.left() > 0 && c.at == c.una && c.window == 0 && c.timer == null) {
      c.timer = host.now + c.rto;
    }
  }

  private void sendNext(Connection c, int n) {
    sendPart(c, c.at, n);
    c.at += n;
    c.max = isBehind(c.at, c.max) ? c.at : c.max;
  }

  private void sendPart(Connection c, int number, int n) {
    int size = Math.min(n, c.dataEnd() - number);
    int flags = Peer.ACK;
    if (size > 0 && number + size == c.dataEnd()) {
      flags |= Peer.PSH;
    }
    if (n > size) {
      flags |= Peer.FIN;
      c.state = c.state == ESTABLISHED ? FIN_WAIT_1 : c.state == CLOSE_WAIT ? LAST_ACK : c.state;
    }
    if (isBefore(number, c.max)) {
      host.counts[3]++;
      c.timedFrom = null;
    } else if (c.timedFrom == null) {
      c.timedFrom = number;
      c.timedSince = host.now;
    }
    c.timer = c.timer == null ? Integer.valueOf(host.now + c.rto) : c.timer;
    sendFor(c, number, flags, Kit.slice(c.answer, number - c.answerAt, number - c.answerAt + size));
  }

  private void runOut(Connection c) {
    boolean isOpening = c.state == SYN_RECEIVED;
    c.tries++;
    if (c.tries > (isOpening ? 5 : 8)) {
      host.counts[2]++;
      sendFor(c, c.at, Peer.RST | Peer.ACK, NOTHING);
      goes(c);
      return;
    }
    c.ssthresh = isOpening ? c.ssthresh : Math.max((c.max - c.una) / 2, 2 * c.mss);
    c.cwnd = c.mss;
    c.recovery = false;
    c.duplicates = 0;
    c.rto = Math.min(60000, 2 * c.rto);
    c.timer = host.now + c.rto;
    if (isOpening) {
      host.counts[3]++;
      c.timedFrom = null;
      sendFor(c, c.iss, Peer.SYN | Peer.ACK, MSS_1460);
    } else {
      c.at = c.una;
      sendNext(c, c.window == 0 ? 1 : mayGo(c));
    }
  }
}
