/** Promises 17, 18 and 19: counted, damage, strays. */
public final class DamageTest {
  private static final int P = 0x0A000009;
  private static final String GET = "GET /a.txt HTTP/1.1\r\nHost: h\r\n\r\n";

  public static void main(String[] args) {
    notBooted();
    whenBusy();
    entries();
    whatIsServed();
    counts();
    Kit.finish();
  }

  private static int find(byte[] image, String text) {
    return Kit.latin(image).indexOf(text);
  }

  private static void notBooted() {
    byte[] image = Kit.image("/a.txt", "some text");
    Kit kit = new Kit();
    WebHost x = kit.host;
    kit.put(image);
    Kit.due("18: not the tray", x.damage(0, 0), false);
    x.install();
    Kit.due("18: below", x.damage(-1, 0), false);
    Kit.due("18: beyond", x.damage(image.length, 0), false);
    Kit.due("18: the last", x.damage(image.length - 1, 't'), true);
    Kit.due("18: the first", x.damage(0, 0), true);
    Kit.due("18: not right any more", x.boot(Kit.IP, 24, Kit.GATE, 0x0200, 1), -3);
    Kit.due("18: value & 255", x.damage(0, 0x12300 + 'S'), true);
    Kit.due("18: right again", x.boot(Kit.IP, 24, Kit.GATE, 0x0200, 1), 1);
    Kit.due("18: MIN", x.damage(Integer.MIN_VALUE, 0), false);
    Kit.due("18: MAX", x.damage(Integer.MAX_VALUE, 0), false);
  }

  private static void whenBusy() {
    byte[] image = Kit.image("/a.txt", "some text");
    Kit kit = Kit.booted(image);
    WebHost x = kit.host;
    Peer peer = new Peer(kit, P, 5000);
    kit.arrive(Kit.tell(P), 0);
    Kit.due("18: nothing there", x.damage(0, 'S'), true);
    peer.syn(1, 1000, new byte[0]);
    Kit.due("18: SYN in flight", x.damage(0, 'S'), false);
    peer.raw(2, Peer.ACK, peer.seq, peer.ack, "");
    Kit.due("18: open and quiet", x.damage(0, 'S'), true);
    peer.send(3, GET);
    Kit.due("18: an answer in flight", x.damage(0, 'S'), false);
    int n = peer.data(0).length();
    peer.ackMore(4, n - 1);
    Kit.due("18: still", x.damage(0, 'S'), false);
    x.pass(1004);
    Kit.due("18: sent again", x.damage(0, 'S'), false);
    peer.ackMore(1005, 1);
    Kit.due("18: all acknowledged", x.damage(0, 'S'), true);
    peer.fin(1006);
    Kit.due("18: a FIN in flight", x.damage(0, 'S'), false);
    peer.ackMore(1007, 1);
    Kit.due("18: gone", x.damage(0, 'S'), true);
    peer = new Peer(kit, P, 5001).open(1010);
    peer.window = 0;
    peer.fin(1011);
    Kit.due("13: CLOSE WAIT", peer.state(), 7);
    Kit.due("18: a FIN to send", x.damage(0, 'S'), false);
  }

  private static String ask(Kit kit, int port, String request) {
    Peer peer = new Peer(kit, P, port).open(kit.host.now());
    peer.send(kit.host.now(), request);
    String answer = peer.data(0);
    peer.raw(kit.host.now(), Peer.RST, peer.seq, 0, "");
    return answer;
  }

  /** The entries count as they were at boot, whatever becomes of the image. */
  private static void entries() {
    byte[] image = Kit.image("/a.txt", "some text", "/b.txt", "other text");
    Kit kit = Kit.booted(image);
    String before = ask(kit, 1, GET);
    for (int i = 0; i < find(image, "some"); i++) {
      kit.host.damage(i, 0);
    }
    Kit.due("10: as before", ask(kit, 2, GET), before);
    Kit.due("5: but not to be booted any more", kit.host.boot(Kit.IP, 24, Kit.GATE, 0x0200, 1), -3);
    Kit.due("5: and nothing changed", ask(kit, 3, GET), before);
  }

  private static void whatIsServed() {
    byte[] image = Kit.image("/a.txt", "some text", "/b.txt", "other text");
    Kit kit = Kit.booted(image);
    String before = ask(kit, 1, GET);
    int place = find(image, "text");
    kit.host.damage(place, 'T');
    Kit.due("8: 500", ask(kit, 2, GET).substring(9, 12), "500");
    Kit.due("8: the other file is whole", ask(kit, 3, GET.replace("/a", "/b")).substring(9, 12), "200");
    Kit.due("8: 500 before 304", ask(kit, 4, GET.replace("Host", "If-None-Match: *\r\nHost")).substring(9, 12), "500");
    kit.host.damage(place, 't');
    Kit.due("8: mended", ask(kit, 5, GET), before);
  }

  private static void counts() {
    Kit kit = Kit.booted();
    WebHost x = kit.host;
    Kit.due("17: -1", x.counted(-1), -1);
    Kit.due("17: 8", x.counted(8), -1);
    Peer peer = new Peer(kit, P, 5000).open(1);
    peer.send(10, GET);
    x.pass(1010);
    peer.ackMore(1020, peer.data(0).length());
    peer.raw(1030, Peer.SYN, peer.seq, 0, "");
    int[] want = {6, 0, 1, 1, 1, 1, 2, peer.data(1).length() + 1};
    for (int i = 0; i < 8; i++) {
      Kit.due("17: counted " + i, x.counted(i), want[i]);
    }
    Kit.due("19: strays", x.strays(), 0);
  }
}
