import java.util.Arrays;

/** The boundaries that the promises 1 to 19 name: each call's last allowed values, first refused ones, and refusals. */
public final class CallEdges {
  private static final int P = 0x0A000009;
  private static final String GET = "GET /a.txt HTTP/1.1\r\nHost: h\r\n\r\n";
  private static final int MAX = Integer.MAX_VALUE;
  private static final int MIN = Integer.MIN_VALUE;

  public static void main(String[] args) {
    newObjectHasNothing();
    feedHasTwentyBytesHighestFirst();
    feedBeyond65540();
    feedRefusedKeepsBytes();
    endBelowZeroOrBeyond();
    installOfMoreThan65535();
    installEmptiesAndUnboots();
    installOfAnEmptyTray();
    bootRefusesBits();
    bootRefusesFirstBytes();
    bootRefusesGateways();
    bootRefusesOddAddresses();
    bootRefusesInOrder();
    bootRefusedChangesNothing();
    bootedAgainIsAsAtFirst();
    notBootedRefusesFirst();
    timeBeforeThePresentOne();
    timeMoreThan600000Behind();
    timeAbove2000000000();
    trayEmptyOrTooLong();
    refusedInOrder();
    answersWhatWasSentSince();
    framesCountedBack();
    bytesOfAFrame();
    places();
    numbersOfAConnection();
    numbersWithoutSign();
    cachedForLessThan60000();
    waitingUpToEight();
    countedByWhat();
    damageOfNoSuchByte();
    damageWhileBusy();
    Kit.finish();
  }

  /** Everything at once: a connection in flight, a packet that waits, a datagram in the making, a tray of 40. */
  private static Kit busy() {
    Kit kit = Kit.booted();
    Peer peer = new Peer(kit, P, 5000).open(100);
    peer.send(200, GET);
    kit.arrive(Kit.packet(0x0A000077, 1, Kit.echo(1, "x")), 300);
    kit.arrive(Kit.packet(P, 3, 0x2000, 1, new byte[8]), 400);
    kit.put(new byte[40]);
    return kit;
  }

  /** Boots an image of the usual two files with numbers of the test's own. */
  private static int boot(int ip, int bits, int gateway, int high) {
    Kit kit = new Kit();
    kit.put(Kit.image("/a", "a", "/b", "b"));
    kit.host.install();
    return kit.host.boot(ip, bits, gateway, high, 1);
  }

  private static void newObjectHasNothing() {
    Kit kit = new Kit();
    Kit.due("1: nothing in the tray", kit.trayHas(0), true);
    Kit.due("1: no image", kit.host.damage(0, 0), false);
    Kit.due("1: none to boot", kit.host.boot(Kit.IP, 24, Kit.GATE, 0x0200, 1), -3);
    Kit.due("1: not booted", kit.host.now(), -1);
  }

  private static void feedHasTwentyBytesHighestFirst() {
    Kit kit = new Kit();
    Kit.due("2: the first twenty", kit.host.feed(0x53544F52, 0, 0, 0, 0), 20);
    Kit.due("2: twenty more", kit.host.feed(0, 0, 0, 0, 0), 40);
    kit.host.end(0);
    byte[] image = Kit.image("/a.txt", "\u0080\u00ff\u0000\u007f" + "ABCDEFGHIJKLMNOPQRSTUVWXYZ");
    kit.put(image);
    kit.host.install();
    Kit.due("2: as they were fed", kit.host.boot(Kit.IP, 24, Kit.GATE, 0x0200, 1), 1);
    Peer peer = new Peer(kit, P, 5000).open(0);
    peer.send(1, GET);
    String data = peer.data(0);
    Kit.due("2: in their order", data.substring(data.length() - 30), Kit.latin(Kit.slice(image, 76, 106)));
  }

  private static Kit fedTo(int n) {
    Kit kit = new Kit();
    for (int i = 0; i < (n + 19) / 20; i++) {
      kit.host.feed(0, 0, 0, 0, 0);
    }
    kit.host.end(n);
    return kit;
  }

  private static void feedBeyond65540() {
    Kit kit = fedTo(65520);
    Kit.due("2: up to 65540", kit.host.feed(0, 0, 0, 0, 0), 65540);
    Kit.due("2: no more", kit.host.feed(0, 0, 0, 0, 0), -1);
    Kit.due("2: and none does", kit.trayHas(65540), true);
    kit = fedTo(65521);
    Kit.due("2: 65541 would be too many", kit.host.feed(0, 0, 0, 0, 0), -1);
    Kit.due("2: none of the twenty does", kit.trayHas(65521), true);
  }

  private static void feedRefusedKeepsBytes() {
    byte[] body = new byte[65535 - 76];
    Arrays.fill(body, (byte) 'b');
    Kit kit = new Kit();
    kit.put(Arrays.copyOf(Kit.image("/b", body), 65540));
    Kit.due("2: refused", kit.host.feed(-1, -1, -1, -1, -1), -1);
    kit.host.end(65535);
    Kit.due("4: 65535 bytes", kit.host.install(), 65535);
    Kit.due("1: an image of 65535 is right", kit.host.boot(Kit.IP, 24, Kit.GATE, 0x0200, 1), 1);
    Peer peer = new Peer(kit, P, 5000).open(0);
    peer.send(1, "HEAD /b HTTP/1.1\r\nHost: h\r\n\r\n");
    Kit.due("2: and its file is whole", peer.data(0).substring(0, 39), "HTTP/1.1 200 OK\r\nContent-Length: 65459\r");
  }

  private static void endBelowZeroOrBeyond() {
    Kit kit = fedTo(20);
    for (int n : new int[] {-1, 21, 40, MIN, MAX}) {
      Kit.due("3: end(" + n + ")", kit.host.end(n), -1);
      Kit.due("3: all stays", kit.trayHas(20), true);
    }
    Kit.due("3: all of it", kit.host.end(20), 20);
    Kit.due("3: all but one", kit.host.end(19), 19);
    Kit.due("3: what was cut does not come back", kit.host.end(20), -1);
    Kit.due("3: feeding goes on from there", kit.host.feed(0, 0, 0, 0, 0), 39);
    Kit.due("3: none", kit.host.end(0), 0);
    Kit.due("3: none of none", kit.host.end(0), 0);
    Kit.due("3: one of none", kit.host.end(1), -1);
  }

  private static void installOfMoreThan65535() {
    Kit kit = Kit.booted();
    for (int i = 0; i < 3277; i++) {
      kit.host.feed(0, 0, 0, 0, 0);
    }
    kit.host.end(65536);
    String before = kit.seen();
    Kit.due("4: 65536", kit.host.install(), -1);
    Kit.due("4: the tray stays", kit.trayHas(65536), true);
    Kit.due("4: booted still, and nothing else", kit.seen(), before);
    Kit.due("4: the image stays", kit.host.boot(Kit.IP, 24, Kit.GATE, 0x0200, 1), 2);
    kit.host.end(65535);
    Kit.due("4: 65535", kit.host.install(), 65535);
    Kit.due("4: its last byte", kit.host.damage(65534, 1), true);
    Kit.due("4: none behind it", kit.host.damage(65535, 1), false);
  }

  private static void installEmptiesAndUnboots() {
    Kit kit = busy();
    Kit.due("4: install", kit.host.install(), 40);
    Kit.due("4: the tray is empty", kit.trayHas(0), true);
    Kit.due("4: not booted", kit.seen(), new Kit().seen());
    Kit.due("10: a place has state 0", kit.host.state(0), 0);
    Kit.due("4: nothing arrives", kit.host.arrive(500), -1);
    Kit.due("4: no time goes on", kit.host.pass(500), -1);
  }

  private static void installOfAnEmptyTray() {
    Kit kit = Kit.booted();
    Kit.due("4: none", kit.host.install(), 0);
    Kit.due("4: not booted", kit.host.now(), -1);
    Kit.due("4: an image of no bytes", kit.host.damage(0, 0), false);
    Kit.due("4: which is not right", kit.host.boot(Kit.IP, 24, Kit.GATE, 0x0200, 1), -3);
  }

  private static void bootRefusesBits() {
    int[] refused = {7, 31, 0, -1, 32, 40, -24, MIN, MAX};
    for (int bits : refused) {
      Kit.due("5: bits " + bits, boot(Kit.IP, bits, Kit.GATE, 0x0200), -1);
    }
    Kit.due("5: bits 8", boot(Kit.IP, 8, Kit.GATE, 0x0200), 2);
    Kit.due("5: bits 30", boot(Kit.IP, 30, Kit.GATE, 0x0200), 2);
  }

  private static void bootRefusesFirstBytes() {
    int[] firsts = {0, 1, 126, 127, 128, 223, 224, 255};
    int[] due = {-1, 2, 2, -1, 2, 2, -1, -1};
    for (int i = 0; i < firsts.length; i++) {
      Kit.due("5: first byte " + firsts[i], boot(firsts[i] << 24 | 2, 24, firsts[i] << 24 | 1, 0x0200), due[i]);
    }
  }

  private static void bootRefusesGateways() {
    int ip = 0x0A010106;
    Kit.due("5: the net's first number, 24 bits", boot(ip, 24, 0x0A010100, 0x0200), 2);
    Kit.due("5: its last", boot(ip, 24, 0x0A0101FF, 0x0200), 2);
    Kit.due("5: one before it", boot(ip, 24, 0x0A0100FF, 0x0200), -2);
    Kit.due("5: one behind it", boot(ip, 24, 0x0A010200, 0x0200), -2);
    Kit.due("5: the net's first number, 30 bits", boot(ip, 30, 0x0A010104, 0x0200), 2);
    Kit.due("5: its last", boot(ip, 30, 0x0A010107, 0x0200), 2);
    Kit.due("5: one before it", boot(ip, 30, 0x0A010103, 0x0200), -2);
    Kit.due("5: one behind it", boot(ip, 30, 0x0A010108, 0x0200), -2);
    Kit.due("5: the net's first number, 8 bits", boot(ip, 8, 0x0A000000, 0x0200), 2);
    Kit.due("5: its last", boot(ip, 8, 0x0AFFFFFF, 0x0200), 2);
    Kit.due("5: one before it", boot(ip, 8, 0x09FFFFFF, 0x0200), -2);
    Kit.due("5: one behind it", boot(ip, 8, 0x0B000000, 0x0200), -2);
    Kit.due("5: ip itself", boot(ip, 24, ip, 0x0200), -2);
  }

  private static void bootRefusesOddAddresses() {
    Kit.due("5: an even first byte", boot(Kit.IP, 24, Kit.GATE, 0x00FE00), 2);
    Kit.due("5: an odd one", boot(Kit.IP, 24, Kit.GATE, 0x00FF00), -2);
    Kit.due("5: 01", boot(Kit.IP, 24, Kit.GATE, 0x0100), -2);
    Kit.due("5: 00", boot(Kit.IP, 24, Kit.GATE, 0x0000), 2);
    Kit.due("5: an odd second byte", boot(Kit.IP, 24, Kit.GATE, 0x0201), 2);
    Kit.due("5: only the lowest 2 bytes of high", boot(Kit.IP, 24, Kit.GATE, 0x01010200), 2);
    Kit.due("5: also below 0", boot(Kit.IP, 24, Kit.GATE, 0xFFFF0200), 2);
  }

  private static void bootRefusesInOrder() {
    WebHost x = new WebHost();
    Kit.due("5: -1 before -2 and -3", x.boot(0x7F000001, 24, 0x7F000001, 0x0100, 1), -1);
    Kit.due("5: -2 before -3", x.boot(Kit.IP, 24, Kit.IP, 0x0200, 1), -2);
    Kit.due("5: -2 before -3, by the address", x.boot(Kit.IP, 24, Kit.GATE, 0x0100, 1), -2);
    Kit.due("5: -3", x.boot(Kit.IP, 24, Kit.GATE, 0x0200, 1), -3);
  }

  private static void bootRefusedChangesNothing() {
    Kit kit = busy();
    String before = kit.seen();
    Kit.due("5: -1", kit.host.boot(Kit.IP, 31, Kit.GATE, 0x0200, 1), -1);
    Kit.due("5: nothing changes", kit.seen(), before);
    Kit.due("5: -2", kit.host.boot(Kit.IP, 24, Kit.IP, 0x0200, 1), -2);
    Kit.due("5: nothing changes", kit.seen(), before);
    Kit.due("5: the tray stays", kit.trayHas(40), true);
    kit = Kit.booted();
    Peer peer = new Peer(kit, P, 5000).open(100);
    kit.host.damage(0, 0);
    before = kit.seen();
    Kit.due("5: -3", kit.host.boot(Kit.IP, 24, Kit.GATE, 0x0200, 1), -3);
    Kit.due("5: nothing changes", kit.seen(), before);
    Kit.due("5: it serves as before", peer.send(200, GET), 1);
    Kit.due("5: the whole file", peer.data(0).substring(0, 15), "HTTP/1.1 200 OK");
  }

  private static void bootedAgainIsAsAtFirst() {
    Kit kit = busy();
    Kit.due("5: booted again", kit.host.boot(Kit.IP, 24, Kit.GATE, 0x0200, 1), 2);
    Kit.due("5: all is as at first", kit.seen(), Kit.booted().seen());
    Kit.due("5: no timer is left", kit.host.pass(600000), 0);
  }

  private static void notBootedRefusesFirst() {
    Kit kit = new Kit();
    kit.put(new byte[40]);
    Kit.due("6: not booted, all else wrong too", kit.host.arrive(-1), -1);
    Kit.due("6: not booted, all else right", kit.host.arrive(0), -1);
    Kit.due("6: the tray stays", kit.trayHas(40), true);
    Kit.due("7: not booted, time wrong too", kit.host.pass(-1), -1);
    Kit.due("7: not booted", kit.host.pass(0), -1);
    Kit.due("8: not booted", kit.host.now(), -1);
    Kit.due("9: not booted", kit.host.sent(), -1);
  }

  /** A call of arrive() and of pass() at a time that both refuse. */
  private static void refusedTime(Kit kit, int time) {
    String before = kit.seen();
    Kit.due("6: at " + time, kit.host.arrive(time), -2);
    Kit.due("7: at " + time, kit.host.pass(time), -2);
    Kit.due("6: nothing changes", kit.seen(), before);
    Kit.due("6: the tray stays", kit.trayHas(40), true);
  }

  private static void timeBeforeThePresentOne() {
    Kit kit = busy();
    refusedTime(kit, 399);
    refusedTime(kit, 0);
    refusedTime(kit, -1);
    refusedTime(kit, MIN);
    Kit.due("7: the present one", kit.host.pass(400), 0);
    Kit.due("6: the present one", kit.host.arrive(400), 0);
    Kit.due("6: the frame was taken", kit.trayHas(0), true);
  }

  private static void timeMoreThan600000Behind() {
    Kit kit = busy();
    refusedTime(kit, 600401);
    refusedTime(kit, MAX);
    Kit late = Kit.booted();
    Kit.due("6: 600000 behind", late.arrive(Kit.ask(P), 600000), 1);
    Kit.due("8: the present time", late.host.now(), 600000);
    Kit.due("7: 600001 behind that", late.host.pass(1200001), -2);
    Kit.due("7: 600000 behind that", late.host.pass(1200000), 0);
    Kit.due("8: the present time", late.host.now(), 1200000);
  }

  private static void timeAbove2000000000() {
    Kit kit = Kit.booted();
    for (int i = 1; i <= 3333; i++) {
      kit.host.pass(600000 * i);
    }
    kit.put(new byte[40]);
    Kit.due("8: close to the end", kit.host.now(), 1999800000);
    refusedTime(kit, 2000000001);
    refusedTime(kit, 2000400000);
    kit.host.end(0);
    Kit.due("6: the last time", kit.arrive(Kit.ask(P), 2000000000), 1);
    Kit.due("12: when", kit.host.time(0), 2000000000);
    Kit.due("7: no more", kit.host.pass(2000000001), -2);
    Kit.due("7: the same", kit.host.pass(2000000000), 0);
  }

  private static void trayEmptyOrTooLong() {
    Kit kit = Kit.booted();
    String before = kit.seen();
    Kit.due("6: an empty tray", kit.host.arrive(5), -3);
    Kit.due("6: nothing changes, not even the time", kit.seen(), before);
    kit.put(new byte[1515]);
    Kit.due("6: 1515 bytes", kit.host.arrive(5), -3);
    Kit.due("6: nothing changes", kit.seen(), before);
    Kit.due("6: the tray stays", kit.trayHas(1515), true);
    kit.host.end(1514);
    Kit.due("6: 1514 bytes", kit.host.arrive(5), 0);
    Kit.due("17: arrived", kit.host.counted(0), 1);
    Kit.due("6: the tray is empty", kit.trayHas(0), true);
    kit.put(new byte[1]);
    Kit.due("6: a byte", kit.host.arrive(5), 0);
    Kit.due("17: arrived", kit.host.counted(0), 2);
  }

  private static void refusedInOrder() {
    Kit kit = Kit.booted();
    Kit.due("6: -2 before -3", kit.host.arrive(-1), -2);
    kit.put(new byte[1515]);
    Kit.due("6: -2 before -3", kit.host.arrive(600001), -2);
    Kit.due("7: a full tray does not matter", kit.host.pass(1), 0);
    Kit.due("6: the tray stays", kit.trayHas(1515), true);
  }

  private static void answersWhatWasSentSince() {
    Kit kit = Kit.booted();
    Kit.due("6: an ASK", kit.arrive(Kit.packet(P, 1, Kit.echo(1, "x")), 0), 1);
    Kit.due("6: two ASKs that came due, and a TELL", kit.arrive(Kit.ask(P + 1), 2500), 3);
    Kit.due("9: in all", kit.host.sent(), 4);
    Kit.due("7: none", kit.host.pass(9000), 0);
    Kit.due("9: in all", kit.host.sent(), 4);
  }

  private static void framesCountedBack() {
    Kit kit = Kit.booted();
    Kit.due("10: none yet", kit.host.length(0), -1);
    kit.arrive(Kit.ask(P), 7);
    Kit.due("10: the only one", kit.host.length(0), 60);
    Kit.due("10: none before it", kit.host.length(1), -1);
    Kit.due("12: none before it", kit.host.time(1), -1);
    Kit.due("11: none before it", kit.host.at(1, 0), -1);
    for (int i = 1; i < 32; i++) {
      kit.arrive(Kit.ask(P + i), 7 + i);
    }
    Kit.due("10: the first of 32", kit.host.length(31), 60);
    Kit.due("12: the first of 32", kit.host.time(31), 7);
    kit.arrive(Kit.ask(P + 32), 100);
    Kit.due("12: of 33 the second", kit.host.time(31), 8);
    Kit.due("11: of 33 the second", kit.host.at(31, 5), 0x0A);
    for (int i : new int[] {-1, 32, 33, 64, MIN, MAX}) {
      Kit.due("10: frame " + i, kit.host.length(i), -1);
      Kit.due("11: frame " + i, kit.host.at(i, 0), -1);
      Kit.due("12: frame " + i, kit.host.time(i), -1);
    }
  }

  private static void bytesOfAFrame() {
    Kit kit = Kit.booted();
    kit.arrive(Kit.ask(P), 0);
    for (int k : new int[] {-1, 60, 61, 1513, 1514, MIN, MAX}) {
      Kit.due("11: byte " + k + " of 60", kit.host.at(0, k), -1);
    }
    Kit.due("11: the first", kit.host.at(0, 0), 2);
    Kit.due("11: the last", kit.host.at(0, 59), 0);
    kit.arrive(Kit.packet(P, 1, Kit.echo(1, "\u00fe".repeat(1472))), 0);
    Kit.due("11: the last of 1514, without sign", kit.host.at(0, 1513), 0xFE);
    Kit.due("11: none behind it", kit.host.at(0, 1514), -1);
  }

  private static void places() {
    Kit kit = Kit.booted();
    kit.arrive(Kit.tell(P), 0);
    for (int i = 0; i < 16; i++) {
      Kit.due("13: free", kit.host.state(i), 0);
      new Peer(kit, P, 5000 + i).syn(1, 9, new byte[0]);
      Kit.due("13: SYN RECEIVED", kit.host.state(i), 1);
      Kit.due("14: its port", kit.host.look(i, 1), 5000 + i);
    }
    for (int place : new int[] {-1, 16, MIN, MAX}) {
      Kit.due("13: place " + place, kit.host.state(place), -1);
      Kit.due("14: place " + place, kit.host.look(place, 0), 4294967296L);
    }
  }

  private static void numbersOfAConnection() {
    Kit kit = busy();
    for (int what : new int[] {-1, 15, MIN, MAX}) {
      Kit.due("14: what " + what, kit.host.look(0, what), 4294967296L);
    }
    for (int what = 0; what < 15; what++) {
      Kit.due("14: what " + what, kit.host.look(0, what) < 4294967296L, true);
      Kit.due("14: none, what " + what, kit.host.look(1, what), 4294967296L);
    }
    Kit.due("14: the first", kit.host.look(0, 0), P);
    Kit.due("14: the last", kit.host.look(0, 14), 0);
  }

  private static void numbersWithoutSign() {
    Kit kit = Kit.booted();
    kit.arrive(Kit.tell(Kit.GATE), 0);
    Peer peer = new Peer(kit, 0xDF000001, 65535);
    peer.syn(1, 0xFFFFFFFE, new byte[0]);
    Kit.due("14: a number above 2147483647", kit.host.look(0, 0), 0xDF000001L);
    Kit.due("14: the greatest port", kit.host.look(0, 1), 65535);
    Kit.due("14: the greatest NEXT", kit.host.look(0, 5), 0xFFFFFFFFL);
    Kit.due("14: the greatest window", kit.host.look(0, 6), 65535);
  }

  private static void cachedForLessThan60000() {
    Kit kit = Kit.booted();
    kit.arrive(Kit.tell(P), 0);
    Kit.due("15: at its time", kit.host.cached(P), true);
    kit.host.pass(59999);
    Kit.due("15: 59999 behind", kit.host.cached(P), true);
    kit.host.pass(60000);
    Kit.due("15: 60000 behind", kit.host.cached(P), false);
    Kit.due("15: a number that is not in it", kit.host.cached(P + 1), false);
    Kit.due("15: 0", kit.host.cached(0), false);
  }

  private static void waitingUpToEight() {
    Kit kit = Kit.booted();
    Kit.due("16: none", kit.host.waiting(), 0);
    for (int i = 0; i < 10; i++) {
      kit.arrive(Kit.packet(P + i, 1, Kit.echo(1, "x")), 0);
      Kit.due("16: one each", kit.host.waiting(), Math.min(i + 1, 8));
    }
  }

  private static void countedByWhat() {
    Kit kit = Kit.booted();
    for (int what : new int[] {-1, 8, MIN, MAX}) {
      Kit.due("17: what " + what, kit.host.counted(what), -1);
      Kit.due("17: not booted, what " + what, new WebHost().counted(what), -1);
    }
    for (int what = 0; what < 8; what++) {
      Kit.due("17: what " + what, kit.host.counted(what), 0);
      Kit.due("17: not booted, what " + what, new WebHost().counted(what), -1);
    }
  }

  private static void damageOfNoSuchByte() {
    byte[] image = Kit.image("/a.txt", "some text");
    Kit kit = Kit.booted(image);
    for (int place : new int[] {-1, image.length, MIN, MAX}) {
      Kit.due("18: place " + place, kit.host.damage(place, 0), false);
    }
    Kit.due("18: nothing is done", kit.host.boot(Kit.IP, 24, Kit.GATE, 0x0200, 1), 1);
    Kit.due("18: the last byte", kit.host.damage(image.length - 1, 'T'), true);
    Kit.due("18: the first byte", kit.host.damage(0, 0), true);
    Kit.due("18: is another one", kit.host.boot(Kit.IP, 24, Kit.GATE, 0x0200, 1), -3);
    for (int value : new int[] {256 + 'S', -256 + 'S', 'S'}) {
      kit.host.damage(0, 0);
      Kit.due("18: value & 255 of " + value, kit.host.damage(0, value), true);
      Kit.due("18: is the right one", kit.host.boot(Kit.IP, 24, Kit.GATE, 0x0200, 1), 1);
    }
    Peer peer = new Peer(kit, P, 5000).open(0);
    peer.send(1, GET);
    Kit.due("18: the last byte is another one", peer.data(0).substring(9, 12), "500");
  }

  private static void damageWhileBusy() {
    byte[] image = Kit.image("/a.txt", "some text");
    Kit kit = Kit.booted(image);
    Peer peer = new Peer(kit, P, 5000).open(0);
    peer.window = 0;
    peer.send(1, GET);
    Kit.due("18: something to send", kit.host.damage(image.length - 1, 'T'), false);
    peer.window = 5000;
    peer.ackMore(2, 0);
    int n = peer.data(0).length();
    Kit.due("18: all in flight", kit.host.damage(image.length - 1, 'T'), false);
    peer.ackMore(3, n - 1);
    Kit.due("18: a byte in flight", kit.host.damage(image.length - 1, 'T'), false);
    peer.ackMore(4, 1);
    peer.send(5, GET);
    Kit.due("18: nothing was done", peer.data(0).substring(9, 12), "200");
    peer.ackMore(6, n);
    Kit.due("18: none in flight", kit.host.damage(image.length - 1, 'T'), true);
    peer.send(7, GET);
    Kit.due("18: it was done", peer.data(0).substring(9, 12), "500");
    kit.host.install();
    Kit.due("10: not booted, no connection matters", kit.host.damage(0, 0), false);
    kit.put(image);
    kit.host.install();
    Kit.due("10: it works on the image", kit.host.damage(0, 0), true);
  }
}
