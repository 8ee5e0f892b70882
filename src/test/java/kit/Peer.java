import java.util.Arrays;

/** The other side of a connection, which sends just what a test tells it to. */
final class Peer {
  static final int FIN = 1;
  static final int SYN = 2;
  static final int RST = 4;
  static final int PSH = 8;
  static final int ACK = 16;

  final Kit kit;
  final WebHost host;
  final int ip;
  final int port;
  int seq;
  int ack;
  int window = 65535;

  Peer(Kit kit, int ip, int port) {
    this.kit = kit;
    this.host = kit.host;
    this.ip = ip;
    this.port = port;
  }

  /** A segment with numbers of its own, which leaves those of the peer. */
  int raw(int time, int flags, int seq, int ack, String data) {
    int[] fields = {port, 80, seq, ack, flags, window};
    return kit.arrive(Kit.packet(ip, 6, Kit.tcp(ip, fields, new byte[0], Kit.latin(data))), time);
  }

  int syn(int time, int seq, byte[] options) {
    int[] fields = {port, 80, seq, 0, SYN, window};
    this.seq = seq + 1;
    int n = kit.arrive(Kit.packet(ip, 6, Kit.tcp(ip, fields, options, new byte[0])), time);
    ack = Kit.four(kit.frame(0), 38) + 1;
    return n;
  }

  /** Puts itself into the cache, and opens the connection at one time. */
  Peer open(int time, int mss) {
    kit.arrive(Kit.ask(ip), time);
    syn(time, 1000, Kit.join(Kit.hex("0204"), Kit.two(mss)));
    raw(time, ACK, seq, ack, "");
    return this;
  }

  Peer open(int time) {
    return open(time, 1460);
  }

  /** Data in order. */
  int send(int time, String data) {
    int n = raw(time, ACK | PSH, seq, ack, data);
    seq += data.length();
    return n;
  }

  /** Acknowledges so many bytes more. */
  int ackMore(int time, int bytes) {
    ack += bytes;
    return raw(time, ACK, seq, ack, "");
  }

  int fin(int time) {
    int n = raw(time, FIN | ACK, seq, ack, "");
    seq++;
    return n;
  }

  int place() {
    for (int i = 0; i < 16; i++) {
      if (host.look(i, 0) == (ip & 0xFFFFFFFFL) && host.look(i, 1) == port) {
        return i;
      }
    }
    return -1;
  }

  int state() {
    return place() < 0 ? 0 : host.state(place());
  }

  long look(int what) {
    return host.look(place(), what);
  }

  /** The data of the frame sent i back. */
  String data(int i) {
    byte[] frame = kit.frame(i);
    int from = 34 + (Kit.one(frame, 46) >> 4) * 4;
    return Kit.latin(Arrays.copyOfRange(frame, from, 14 + Kit.two(frame, 16)));
  }

  int flags(int i) {
    return host.at(i, 47);
  }

  int seqOf(int i) {
    return Kit.four(kit.frame(i), 38);
  }

  int ackOf(int i) {
    return Kit.four(kit.frame(i), 42);
  }

  int windowOf(int i) {
    return Kit.two(kit.frame(i), 48);
  }
}
