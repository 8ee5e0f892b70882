import java.util.Arrays;

/** Point 1 of the terms: the boundaries of what makes an image right. */
public final class ImageEdges {
  private static final int P = 0x0A000009;

  public static void main(String[] args) {
    sign();
    numberOfFiles();
    twoBytesZero();
    nameBegins();
    nameCodes();
    nameLength();
    restOfName();
    fourBytesZero();
    checkOfAllBefore();
    noNameTwice();
    withinTheImage();
    withoutSign();
    ownChecksWhenServed();
    usualCheck();
    Kit.finish();
  }

  /** A table of one entry, with its check and 24 bytes behind: 100 bytes in all. */
  private static byte[] table(byte[] name, int place, int length, byte[] last) {
    byte[] head = Kit.join(Kit.latin("STOR"), Kit.two(1), Kit.two(0));
    byte[] entry = Kit.join(name, Kit.four(place), Kit.four(length), Kit.four(0), last);
    return Kit.join(Kit.sealed(Kit.join(head, entry)), new byte[24]);
  }

  private static int named(String name) {
    return Kit.bootOf(table(Arrays.copyOf(Kit.latin(name), 48), 0, 0, new byte[4]));
  }

  private static int placed(int place, int length) {
    return Kit.bootOf(table(Arrays.copyOf(Kit.latin("/a"), 48), place, length, new byte[4]));
  }

  /** An image without files whose head is changed, but its check is right. */
  private static int headed(String hex) {
    return Kit.bootOf(Kit.sealed(Kit.hex(hex)));
  }

  private static void sign() {
    Kit.due("1: 83 84 79 82", headed("53544f5200000000"), 0);
    for (int i = 0; i < 4; i++) {
      for (int d = -1; d <= 1; d += 2) {
        byte[] head = Kit.hex("53544f5200000000");
        head[i] += d;
        Kit.due("1: byte " + i + " off by " + d, Kit.bootOf(Kit.sealed(head)), -3);
      }
    }
  }

  private static void numberOfFiles() {
    Kit.due("1: no files", Kit.bootOf(Kit.imageOf(0)), 0);
    Kit.due("1: one file", Kit.bootOf(Kit.imageOf(1)), 1);
    Kit.due("1: 64 files", Kit.bootOf(Kit.imageOf(64)), 64);
    Kit.due("1: 65 files", Kit.bootOf(Kit.imageOf(65)), -3);
    Kit.due("1: 256 in the higher byte", headed("53544f5201000000"), -3);
    Kit.due("1: 65535 files", headed("53544f52ffff0000"), -3);
    Kit.due("1: one file, but no entry", headed("53544f5200010000"), -3);
  }

  private static void twoBytesZero() {
    Kit.due("1: the first is 1", headed("53544f5200000100"), -3);
    Kit.due("1: the second is 1", headed("53544f5200000001"), -3);
    Kit.due("1: the first is 128", headed("53544f5200008000"), -3);
  }

  private static void nameBegins() {
    Kit.due("1: / alone", named("/"), 1);
    Kit.due("1: no name", named(""), -3);
    Kit.due("1: .", named("."), -3);
    Kit.due("1: 0 for 1", named("0"), -3);
    Kit.due("1: a/", named("a/"), -3);
  }

  private static void nameCodes() {
    int[] codes = {1, 9, 32, 33, 126, 127, 128, 161, 255};
    int[] due = {-3, -3, -3, 1, 1, -3, -3, -3, -3};
    for (int i = 0; i < codes.length; i++) {
      Kit.due("1: code " + codes[i] + " second", named("/" + (char) codes[i]), due[i]);
      Kit.due("1: code " + codes[i] + " last of 47", named("/" + "x".repeat(45) + (char) codes[i]), due[i]);
    }
  }

  private static void nameLength() {
    Kit.due("1: 47 codes", named("/" + "x".repeat(46)), 1);
    Kit.due("1: 48 codes", named("/" + "x".repeat(47)), -3);
  }

  private static void restOfName() {
    for (int i = 3; i < 48; i++) {
      byte[] name = Arrays.copyOf(Kit.latin("/a"), 48);
      name[i] = 'x';
      Kit.due("1: byte " + i + " behind a 0", Kit.bootOf(table(name, 0, 0, new byte[4])), -3);
    }
  }

  private static void fourBytesZero() {
    for (int i = 0; i < 4; i++) {
      byte[] last = new byte[4];
      last[i] = 1;
      Kit.due("1: byte " + i, Kit.bootOf(table(Arrays.copyOf(Kit.latin("/a"), 48), 0, 0, last)), -3);
    }
  }

  private static void checkOfAllBefore() {
    byte[] image = Kit.image("/a", "text");
    Kit.due("1: as it is", Kit.bootOf(image), 1);
    for (int i = 72; i < 76; i++) {
      byte[] bad = image.clone();
      bad[i] ^= 1;
      Kit.due("1: byte " + i + " of the check", Kit.bootOf(bad), -3);
    }
    byte[] bad = image.clone();
    bad[71 - 4] ^= 1;
    Kit.due("1: a byte of the table", Kit.bootOf(bad), -3);
    byte[] behind = image.clone();
    behind[76] ^= 1;
    Kit.due("1: a byte behind the check is not part of it", Kit.bootOf(behind), 1);
    byte[] empty = Kit.imageOf(1);
    Kit.due("1: nothing behind the check", Kit.bootOf(empty), 1);
    for (int n = 0; n < empty.length; n++) {
      Kit.due("1: only " + n + " bytes", Kit.bootOf(Arrays.copyOf(empty, n)), -3);
    }
    for (int n = 0; n < 12; n++) {
      Kit.due("1: no files, only " + n + " bytes", Kit.bootOf(Arrays.copyOf(Kit.imageOf(0), n)), -3);
    }
  }

  private static void noNameTwice() {
    Kit.due("1: neighbours", Kit.bootOf(Kit.image("/a", "1", "/a", "2")), -3);
    Kit.due("1: the first and the last", Kit.bootOf(Kit.image("/a", "1", "/b", "2", "/c", "3", "/a", "4")), -3);
    Kit.due("1: the last two", Kit.bootOf(Kit.image("/a", "1", "/b", "2", "/b", "3")), -3);
    Kit.due("1: one longer", Kit.bootOf(Kit.image("/a", "1", "/aa", "2")), 2);
    Kit.due("1: great and small", Kit.bootOf(Kit.image("/a", "1", "/A", "2")), 2);
    String most = "/" + "x".repeat(45);
    Kit.due("1: another code at the end of 47", Kit.bootOf(Kit.image(most + "y", "1", most + "z", "2")), 2);
    Kit.due("1: 47 codes twice", Kit.bootOf(Kit.image(most + "y", "1", most + "y", "2")), -3);
  }

  private static void withinTheImage() {
    Kit.due("1: the whole of 100 bytes", placed(0, 100), 1);
    Kit.due("1: one more", placed(0, 101), -3);
    Kit.due("1: the last byte", placed(99, 1), 1);
    Kit.due("1: the last and one more", placed(99, 2), -3);
    Kit.due("1: nothing at the end", placed(100, 0), 1);
    Kit.due("1: a byte at the end", placed(100, 1), -3);
    Kit.due("1: nothing behind the end", placed(101, 0), -3);
    Kit.due("1: nothing at the beginning", placed(0, 0), 1);
  }

  private static void withoutSign() {
    Kit.due("10: place 4294967295", placed(-1, 1), -3);
    Kit.due("10: place 4294967295, nothing", placed(-1, 0), -3);
    Kit.due("10: length 4294967295", placed(0, -1), -3);
    Kit.due("10: length 4294967295 from 1: they wrap to 0", placed(1, -1), -3);
    Kit.due("10: place 2147483648", placed(Integer.MIN_VALUE, 0), -3);
    Kit.due("10: both 2147483648: they wrap to 0", placed(Integer.MIN_VALUE, Integer.MIN_VALUE), -3);
    Kit.due("10: both 2147483647", placed(Integer.MAX_VALUE, Integer.MAX_VALUE), -3);
    Kit.due("10: they wrap to 50", placed(-50, 100), -3);
  }

  private static String get(Kit kit, int port, String target) {
    Peer peer = new Peer(kit, P, port).open(0);
    peer.send(0, "GET " + target + " HTTP/1.1\r\nHost: h\r\n\r\n");
    return peer.data(0);
  }

  private static void ownChecksWhenServed() {
    byte[] image = Kit.image("/good", "good", "/bad", "bad");
    image[image.length - 1] = 'D';
    Kit.due("1: a file's own check does not matter at boot", Kit.bootOf(image), 2);
    Kit kit = Kit.booted(image);
    Kit.due("1: nor for another file", get(kit, 5000, "/good").substring(9, 12), "200");
    Kit.due("1: but when it is served", get(kit, 5001, "/bad").substring(9, 12), "500");
  }

  private static void usualCheck() {
    Kit kit = Kit.booted(Kit.image("/nine", "123456789", "/none", "", "/zero", new byte[1]));
    Kit.due("1: of nine digits", get(kit, 5000, "/nine").contains("\r\nETag: \"cbf43926\"\r\n"), true);
    Kit.due("1: of nothing", get(kit, 5001, "/none").contains("\r\nETag: \"00000000\"\r\n"), true);
    Kit.due("1: of a 0", get(kit, 5002, "/zero").contains("\r\nETag: \"d202ef8d\"\r\n"), true);
  }
}
