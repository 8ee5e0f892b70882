/** The terms of IP, fragments and ICMP, and promise 17's count of datagrams put together. */
public final class IpTest {
  private static final int P = 0x0A000009;

  public static void main(String[] args) {
    echoes();
    headers();
    fragments();
    contradictions();
    inTheMaking();
    lateFragments();
    greatDatagrams();
    fragmentsAlone();
    sums();
    Kit.finish();
  }

  private static void echoes() {
    Kit kit = Kit.knowing(P);
    byte[] message = Kit.echo(0x1234, "hello");
    Kit.due("4: an echo", kit.arrive(Kit.packet(P, 1, message), 1), 1);
    byte[] frame = kit.frame(0);
    Kit.due("4: its header", Kit.hex(Kit.slice(frame, 0, 24)),
        "02000a000009" + "020000000001" + "0800" + "4500" + "0021" + "0001" + "4000" + "4001");
    Kit.due("4: well formed", Kit.faultOf(frame), "");
    Kit.due("4: to whom", Kit.four(frame, 30), P);
    Kit.due("4: type 0", Kit.two(frame, 34), 0);
    Kit.due("4: the same behind", Kit.hex(Kit.slice(frame, 38, 47)), Kit.hex(Kit.slice(message, 4, 13)));
    Kit.due("4: the next one", kit.arrive(Kit.packet(P, 1, Kit.echo(1, "")), 2), 1);
    Kit.due("4: has identification 2", Kit.two(kit.frame(0), 18), 2);
    Kit.due("4: fewer than 8", kit.arrive(Kit.packet(P, 1, Kit.hex("0800f7ff000000")), 2), 0);
    byte[] bad = message.clone();
    bad[9] ^= 1;
    Kit.due("4: a wrong sum", kit.arrive(Kit.packet(P, 1, bad), 2), 0);
    Kit.due("4: type 0", kit.arrive(Kit.packet(P, 1, Kit.hex("0000ffff00000000")), 2), 0);
    Kit.due("4: code 1", kit.arrive(Kit.packet(P, 1, Kit.hex("0801f7fe00000000")), 2), 0);
    Kit.due("4: code 0", kit.arrive(Kit.packet(P, 1, Kit.hex("0800f7ff00000000")), 2), 1);
    Kit.due("4: protocol 17", kit.arrive(Kit.packet(P, 17, message), 2), 0);
    Kit.due("4: 1480 bytes", kit.arrive(Kit.packet(P, 1, Kit.echo(1, "x".repeat(1472))), 2), 1);
    Kit.due("4: well formed", Kit.faultOf(kit.frame(0)), "");
    byte[] all = Kit.join(Kit.ALL, Kit.slice(Kit.packet(P, 1, message), 6, 47));
    Kit.due("2: a packet to us in a frame to all", kit.arrive(all, 3), 1);
  }

  private static int changed(Kit kit, int byteAt, int value) {
    byte[] frame = Kit.packet(P, 1, Kit.echo(1, "abcdefgh"));
    frame[byteAt] = (byte) value;
    frame[24] = 0;
    frame[25] = 0;
    byte[] sum = Kit.two(Kit.sum(Kit.slice(frame, 14, 34)));
    frame[24] = sum[0];
    frame[25] = sum[1];
    return kit.arrive(frame, 5);
  }

  private static void headers() {
    Kit kit = Kit.knowing(P);
    Kit.due("4: as it is", changed(kit, 15, 0), 1);
    Kit.due("4: service does not matter", changed(kit, 15, 0x12), 1);
    Kit.due("4: version 5", changed(kit, 14, 0x55), 0);
    Kit.due("4: header of 16", changed(kit, 14, 0x44), 0);
    Kit.due("4: total beyond the frame", changed(kit, 17, 37), 0);
    Kit.due("4: total below the header", changed(kit, 17, 19), 0);
    Kit.due("4: to another", changed(kit, 33, 3), 0);
    Kit.due("4: time to live does not matter", changed(kit, 22, 0), 1);
    Kit.due("4: from us", changed(kit, 29, 2), 0);
    Kit.due("4: from 0", changed(kit, 26, 0), 0);
    Kit.due("4: from 127", changed(kit, 26, 127), 0);
    Kit.due("4: from 224", changed(kit, 26, 224), 0);
    Kit.due("4: from 223, by the gateway", changed(kit, 26, 223), 1);
    byte[] frame = Kit.packet(P, 1, Kit.echo(1, "abcdefgh"));
    frame[24] ^= 1;
    Kit.due("4: a wrong sum", kit.arrive(frame, 5), 0);
    frame[24] ^= 1;
    Kit.due("4: bytes behind are no part", kit.arrive(Kit.join(frame, new byte[30]), 5), 1);
    Kit.due("4: nor sent back", Kit.two(kit.frame(0), 16), 36);
    Kit.due("4: 19 bytes", kit.arrive(Kit.slice(frame, 0, 33), 5), 0);
    byte[] header = Kit.join(Kit.slice(frame, 14, 34), Kit.hex("01010101"));
    header[0] = 0x46;
    header[3] = 40;
    header[10] = 0;
    header[11] = 0;
    byte[] sum = Kit.two(Kit.sum(header));
    header[10] = sum[0];
    header[11] = sum[1];
    Kit.due("4: options", kit.arrive(Kit.join(Kit.slice(frame, 0, 14), header, Kit.slice(frame, 34, 50)), 5), 1);
    Kit.due("4: well formed", Kit.faultOf(kit.frame(0)), "");
  }

  private static byte[] piece(int id, byte[] whole, int from, int to, boolean more) {
    return Kit.packet(P, id, from / 8 | (more ? 0x2000 : 0), 1, Kit.slice(whole, from, to));
  }

  private static void fragments() {
    Kit kit = Kit.knowing(P);
    byte[] whole = Kit.echo(7, "abcdefghijklmnopqrstuvwxyz");
    Kit.due("4: the last first", kit.arrive(piece(5, whole, 24, 34, false), 1), 0);
    Kit.due("4: the first", kit.arrive(piece(5, whole, 0, 8, true), 2), 0);
    byte[] other = whole.clone();
    other[9] = 'X';
    other[17] = 'Y';
    Kit.due("4: one between", kit.arrive(piece(5, whole, 8, 16, true), 3), 0);
    other[17] = whole[17];
    Kit.due("17: none put together yet", kit.host.counted(1), 0);
    Kit.due("4: bytes there stay, the gap closes", kit.arrive(piece(5, other, 8, 24, true), 4), 1);
    Kit.due("4: as it was", Kit.latin(Kit.slice(kit.frame(0), 42, 68)), "abcdefghijklmnopqrstuvwxyz");
    Kit.due("17: put together", kit.host.counted(1), 1);
    Kit.due("4: seven bytes with more to come", kit.arrive(piece(6, whole, 0, 7, true), 5), 0);
    Kit.due("4: none with more to come", kit.arrive(piece(6, whole, 0, 0, true), 5), 0);
    Kit.due("4: the first", kit.arrive(piece(6, whole, 0, 8, true), 5), 0);
    Kit.due("4: of another protocol", kit.arrive(Kit.packet(P, 6, 1, 17, Kit.slice(whole, 8, 34)), 5), 0);
    Kit.due("4: of another sender", kit.arrive(Kit.packet(P + 1, 6, 1, 1, Kit.slice(whole, 8, 34)), 5), 0);
    Kit.due("4: the rest", kit.arrive(piece(6, whole, 8, 34, false), 6), 1);
    Kit.due("17: put together", kit.host.counted(1), 2);
    byte[] eight = Kit.echo(7, "abcdefgh");
    Kit.due("4: all with more to come", kit.arrive(piece(8, eight, 0, 16, true), 7), 0);
    Kit.due("10: the last may carry nothing", kit.arrive(piece(8, eight, 16, 16, false), 7), 1);
    Kit.due("4: not to be fragmented does not matter",
        kit.arrive(Kit.packet(P, 9, 0x6000, 1, Kit.slice(eight, 0, 8)), 8), 0);
    Kit.due("4: nor here", kit.arrive(Kit.packet(P, 9, 0xC001, 1, Kit.slice(eight, 8, 16)), 8), 1);
    Kit.due("17: put together", kit.host.counted(1), 4);
    Kit.due("4: another protocol is put together", kit.arrive(Kit.packet(P, 6, 0x2000, 17, new byte[8]), 9), 0);
    Kit.due("17: and then dropped", kit.host.counted(1), 5);
  }

  private static void contradictions() {
    Kit kit = Kit.knowing(P);
    byte[] whole = Kit.echo(7, "abcdefghijklmnop");
    kit.arrive(piece(1, whole, 8, 24, false), 1);
    Kit.due("4: another end drops all", kit.arrive(piece(1, whole, 8, 16, false), 1), 0);
    Kit.due("4: so this begins anew", kit.arrive(piece(1, whole, 0, 8, true), 2), 0);
    Kit.due("4: and that ends it", kit.arrive(piece(1, whole, 8, 24, false), 3), 1);
    kit.arrive(piece(2, whole, 8, 24, false), 4);
    kit.arrive(Kit.packet(P, 2, 0x2002, 1, new byte[16]), 5);
    Kit.due("4: bytes beyond the end drop all", kit.arrive(piece(2, whole, 0, 8, true), 6), 0);
    Kit.due("4: begun anew", kit.arrive(piece(2, whole, 8, 24, false), 7), 1);
    kit.arrive(Kit.packet(P, 3, 0x2002, 1, new byte[16]), 8);
    Kit.due("4: an end before what is there", kit.arrive(piece(3, whole, 8, 24, false), 9), 0);
    Kit.due("17: nothing is whole by that", kit.host.counted(1), 2);
    Kit.due("4: dropped all", kit.arrive(piece(3, whole, 0, 8, true), 10), 0);
    Kit.due("4: begun anew", kit.arrive(piece(3, whole, 8, 24, false), 11), 1);
    kit.arrive(piece(4, whole, 16, 24, false), 12);
    Kit.due("4: the same end again", kit.arrive(piece(4, whole, 8, 24, false), 13), 0);
    Kit.due("4: up to the end with more to come", kit.arrive(piece(4, whole, 8, 24, true), 13), 0);
    Kit.due("4: all there", kit.arrive(piece(4, whole, 0, 8, true), 14), 1);
  }

  private static void inTheMaking() {
    Kit kit = Kit.knowing(P);
    byte[] whole = Kit.echo(7, "abcdefgh");
    for (int i = 0; i < 4; i++) {
      kit.arrive(piece(i, whole, 0, 8, true), 10 + i);
    }
    Kit.due("4: a fifth", kit.arrive(piece(9, whole, 0, 8, true), 20), 0);
    Kit.due("4: is not kept", kit.arrive(piece(9, whole, 8, 16, false), 20), 0);
    Kit.due("4: the third is", kit.arrive(piece(2, whole, 8, 16, false), 21), 1);
    Kit.due("4: now there is room", kit.arrive(piece(9, whole, 0, 8, true), 22), 0);
    Kit.due("4: for it", kit.arrive(piece(9, whole, 8, 16, false), 23), 1);
    Kit.due("4: the first is there still", kit.arrive(piece(0, whole, 8, 16, false), 24), 1);
    Kit.due("4: the last too", kit.arrive(piece(3, whole, 8, 16, false), 25), 1);
    Kit.due("4: the second too", kit.arrive(piece(1, whole, 8, 16, false), 26), 1);
    Kit.due("17: put together", kit.host.counted(1), 5);
  }

  private static void lateFragments() {
    Kit kit = Kit.knowing(P);
    byte[] whole = Kit.echo(7, "abcdefghijklmnop");
    kit.arrive(piece(1, whole, 0, 8, true), 100);
    kit.arrive(piece(1, whole, 8, 16, true), 15000);
    Kit.due("4: just in time", kit.arrive(piece(1, whole, 16, 24, false), 15099), 1);
    kit.arrive(piece(2, whole, 0, 8, true), 20000);
    kit.arrive(piece(3, whole, 0, 8, true), 20001);
    Kit.due("4: too late", kit.arrive(piece(2, whole, 8, 24, false), 35000), 0);
    Kit.due("4: the other one in time", kit.arrive(piece(3, whole, 8, 24, false), 35000), 1);
    Kit.due("4: what was late began anew", kit.arrive(piece(2, whole, 0, 8, true), 49999), 1);
    kit.arrive(piece(4, whole, 0, 8, true), 50000);
    kit.arrive(piece(4, whole, 8, 16, true), 55000);
    Kit.due("4: one alone is late too", kit.arrive(piece(4, whole, 16, 24, false), 65000), 0);
    kit.host.pass(100000);
    kit.arrive(piece(5, whole, 0, 8, true), 100000);
    kit.arrive(Kit.packet(P, 1, whole), 114500);
    Kit.due("9: what is due behind it happens too", kit.host.pass(116600), 2);
    Kit.due("12: the latest", kit.host.time(0), 116500);
  }

  /** Echoes that would be right by themselves, in fragments that are dropped. */
  private static void fragmentsAlone() {
    Kit kit = Kit.knowing(P);
    byte[] twelve = Kit.echo(7, "abcd");
    byte[] sixteen = Kit.echo(7, "abcdefgh");
    Kit.due("4: 12 bytes with more to come", kit.arrive(Kit.packet(P, 1, 0x2000, 1, twelve), 1), 0);
    Kit.due("4: were dropped", kit.arrive(Kit.packet(P, 1, 1, 1, Kit.slice(twelve, 8, 12)), 1), 0);
    Kit.due("4: too long an end", kit.arrive(Kit.packet(P, 2, 0x0200, 1, sixteen), 1), 0);
    for (int i = 3; i < 6; i++) {
      Kit.due("4: in the making", kit.arrive(Kit.packet(P, i, 0x2000, 1, sixteen), 1), 0);
    }
    Kit.due("4: a fifth", kit.arrive(Kit.packet(P, 6, 0x2000, 1, sixteen), 1), 0);
    Kit.due("4: an end", kit.arrive(Kit.packet(P, 3, 3, 1, sixteen), 1), 0);
    Kit.due("4: another end", kit.arrive(Kit.packet(P, 3, 4, 1, sixteen), 1), 0);
    Kit.due("17: none put together", kit.host.counted(1), 0);
  }

  private static void sums() {
    Kit kit = Kit.knowing(P);
    for (int i = 0; i < 40; i++) {
      kit.arrive(Kit.packet(P, 1, Kit.echo(0xFFF0 + i, "\u00ff".repeat(37 * i) + (char) (7 * i))), 1);
      Kit.due("4: the sum of " + i, Kit.faultOf(kit.frame(0)), "");
    }
    byte[] whole = Kit.echo(7, "0123456789".repeat(5));
    byte[] other = whole.clone();
    java.util.Arrays.fill(other, 8, 40, (byte) 'x');
    kit.arrive(piece(5, whole, 0, 40, true), 2);
    kit.arrive(piece(5, other, 8, 48, true), 3);
    Kit.due("4: all that is there stays", kit.arrive(piece(5, whole, 48, 58, false), 4), 1);
    Kit.due("4: as it was", Kit.latin(Kit.slice(kit.frame(0), 42, 92)), "0123456789".repeat(5));
  }

  private static void greatDatagrams() {
    Kit kit = Kit.knowing(P);
    byte[] whole = Kit.echo(7, "x".repeat(1480 - 8));
    kit.arrive(piece(1, whole, 0, 800, true), 1);
    Kit.due("4: 1480 together", kit.arrive(piece(1, whole, 800, 1480, false), 2), 1);
    whole = Kit.echo(7, "x".repeat(1481 - 8));
    kit.arrive(piece(2, whole, 0, 800, true), 3);
    Kit.due("4: 1481 is not sent back", kit.arrive(piece(2, whole, 800, 1481, false), 4), 0);
    Kit.due("17: yet put together", kit.host.counted(1), 2);
    whole = Kit.echo(7, "x".repeat(4096 - 8));
    kit.arrive(piece(3, whole, 0, 1400, true), 5);
    kit.arrive(piece(3, whole, 1400, 2800, true), 6);
    kit.arrive(Kit.packet(P, 3, 2800 / 8, 1, new byte[1297]), 7);
    kit.arrive(piece(3, whole, 2800, 4096, false), 8);
    Kit.due("17: 4096 put together, 4097 dropped before", kit.host.counted(1), 3);
    kit.arrive(Kit.packet(P, 4, 0x2000 | 4088 / 8, 1, new byte[16]), 9);
    kit.arrive(Kit.packet(P, 4, 0x1FFF, 1, new byte[16]), 9);
    kit.arrive(Kit.packet(P, 4, 0x3FFF, 1, new byte[1480]), 9);
    Kit.due("17: no change", kit.host.counted(1), 3);
  }
}
