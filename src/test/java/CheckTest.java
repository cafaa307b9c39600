import java.io.ByteArrayOutputStream;
import java.util.Arrays;
import java.util.Random;

/** Promise 17: images told by hand, and random ones against the reference. */
public final class CheckTest {
  private static final Dues DUES = new Dues("CheckTest");

  public static void main(String[] args) {
    int rounds = args.length > 0 ? Integer.parseInt(args[0]) : 200000;
    long seed = args.length > 1 ? Long.parseLong(args[1]) : 1;
    MatchHouse house = new MatchHouse();
    byHand(house);
    atTheEnd(house);
    int[] reasons = new int[7];
    for (int k = 0; k < rounds && DUES.wrong() < 5; k++) {
      Random random = new Random(seed * 1000003 + k);
      byte[] image = k % 8 == 7 ? ProcessorTest.randomCode(random, 90) : structured(random);
      if (k % 4 == 2) {
        image = Arrays.copyOf(image, Math.max(0, image.length - random.nextInt(6)));
      }
      Reference due = new Reference(image);
      due.check();
      reasons[due.reason]++;
      Dues.tape(house, image);
      house.place();
      String told = ProcessorTest.hexOf(image);
      DUES.due("check(0) of " + told, house.check(0), due.reason);
      DUES.due("check(1) of " + told, house.check(1), due.refusedAt);
    }
    System.out.println("reasons: " + Arrays.toString(reasons));
    for (int reason = 0; reason < 7; reason++) {
      DUES.due("rounds of reason " + reason + " seen", reasons[reason] > 20, true);
    }
    DUES.finish();
  }

  private static void due(MatchHouse house, String code, int reason, int at) {
    Dues.code(house, code);
    DUES.due("check(0) of " + code, house.check(0), reason);
    DUES.due("check(1) of " + code, house.check(1), at);
    Reference reference = new Reference(Dues.hex(code));
    reference.check();
    DUES.due("reference of " + code, reference.reason, reason);
    DUES.due("reference's place of " + code, reference.refusedAt, at);
  }

  private static String nops(int many) {
    return "90 ".repeat(many);
  }

  private static void byHand(MatchHouse house) {
    DUES.due("check(0) of nothing", house.check(0), 0);
    DUES.due("check(1) of nothing", house.check(1), -1);
    DUES.due("check(2)", house.check(2), -1);
    DUES.due("check(-1)", house.check(-1), -1);
    due(house, "", 0, -1);
    // 1: unknown ones, and one that goes beyond the end.
    due(house, "90 06", 1, 1);
    due(house, "90 b8 00 00", 1, 1);
    due(house, "eb", 1, 0);
    due(house, "8d c0", 1, 0);
    // 2: a number that ends in the next bundle; it fits one byte earlier.
    due(house, nops(28) + "b8 00 00 00 00", 2, 28);
    due(house, nops(27) + "b8 00 00 00 00", 0, -1);
    // 3
    for (String barred : new String[] {"50", "5f", "68 00 00 00 00", "6a 00", "ff f0", "ff 35 00 00 02 00",
        "e8 00 00 00 00", "ff d0", "ff 15 00 00 02 00", "c3", "ff 25 00 00 02 00"}) {
      due(house, "90" + barred, 3, 1);
    }
    // 4: a number alone, at DATA's edges, of four bytes and of one.
    due(house, "a1", 1, 0);
    due(house, "8b 05 00 00 02 00", 0, -1);
    due(house, "8b 05 ff ff 01 00", 4, 0);
    due(house, "8b 05 fc ff 02 00", 0, -1);
    due(house, "8b 05 fd ff 02 00", 4, 0);
    due(house, "8a 05 ff ff 02 00", 0, -1);
    due(house, "8a 05 00 00 03 00", 4, 0);
    due(house, "8b 04 25 00 00 02 00", 4, 0);
    due(house, "8d 05 00 00 00 00 8d 04 24", 0, -1);
    // 4: with a mask.
    due(house, "81 e0 ff ff 00 00 0f b6 80 00 00 02 00", 0, -1);
    due(house, "81 e0 ff ff 00 00 8b 80 00 00 02 00", 4, 6);
    due(house, "81 e0 fc ff 00 00 8b 80 00 00 02 00", 0, -1);
    due(house, "81 e0 fc ff 00 00 8b 80 01 00 02 00", 4, 6);
    due(house, "81 e0 00 00 01 00 8b 80 00 00 02 00", 4, 6);
    due(house, "83 e0 7f 8b 80 00 00 02 00", 0, -1);
    due(house, "83 e0 ff 8b 80 00 00 02 00", 4, 3);
    due(house, "83 e0 7f 8b 00", 4, 3);
    due(house, "83 e0 7f 8b 40 7f", 4, 3);
    due(house, "83 e0 7f 8b 84 20 00 00 02 00", 4, 3);
    due(house, "83 e0 7f 8b 81 00 00 02 00", 4, 3);
    due(house, "83 e0 7f 90 8b 88 00 00 02 00 89 88 04 00 02 00", 0, -1);
    // What is read ends the mask of the register that it comes to.
    due(house, "83 e0 7f 8b 80 00 00 02 00 8b 80 00 00 02 00", 4, 9);
    // Writes in part, and those that may not be.
    for (String writes : new String[] {"88 c4", "8a e1", "c6 c4 00", "0f 94 c4", "0f 94 c0",
        "0f 44 c1", "c1 e0 00", "d3 e0", "f7 e1", "f7 e9", "f7 f1", "f7 f9", "0f af c1", "87 c1",
        "87 c8", "0f c8", "40", "f7 d0", "83 c0 00", "21 c8", "23 c1"}) {
      int size = writes.replace(" ", "").length() / 2;
      due(house, "83 e0 7f" + writes + "8b 80 00 00 02 00", 4, 3 + size);
    }
    for (String keeps : new String[] {"39 c8", "3b c1", "83 f8 00", "85 c0", "0f a3 c8", "99", "90",
        "0f 44 c8", "f7 c0 00 00 00 00", "89 c1", "88 c1"}) {
      due(house, "83 e0 7f" + keeps + "8b 80 00 00 02 00", 0, -1);
    }
    due(house, "83 e2 7f 99 8b 82 00 00 02 00", 4, 4);
    due(house, "83 e2 7f f7 e1 8b 82 00 00 02 00", 4, 5);
    // A mask ends with the bundle, and at a goal; not at one within an instruction.
    due(house, nops(29) + "83 e0 7f 8b 80 00 00 02 00", 4, 32);
    due(house, "83 e0 7f 8b 80 00 00 02 00 75 f8", 4, 3);
    due(house, "83 e0 7f 90 8b 80 00 00 02 00 75 f7", 4, 4);
    due(house, "83 e0 7f 8b 80 00 00 02 00 75 f5", 0, -1);
    due(house, "83 e0 7f 8b 80 00 00 02 00 75 f6", 6, 9);
    // 5
    String go = "81 e1 e0 ff 00 00 81 c1 00 00 01 00 ff e1";
    due(house, go, 0, -1);
    due(house, "ff e1", 5, 0);
    due(house, "81 e1 e0 ff 00 00 81 c1 00 00 01 00 90 ff e1", 5, 13);
    due(house, "81 e1 e0 ff 00 00 90 81 c1 00 00 01 00 ff e1", 5, 13);
    due(house, "81 e1 e1 ff 00 00 81 c1 00 00 01 00 ff e1", 5, 12);
    due(house, "81 e1 00 00 01 00 81 c1 00 00 01 00 ff e1", 5, 12);
    due(house, "81 e1 e0 ff 00 00 81 c1 20 00 01 00 ff e1", 5, 12);
    due(house, "81 e2 e0 ff 00 00 81 c1 00 00 01 00 ff e1", 5, 12);
    due(house, "81 e1 e0 ff 00 00 81 c1 00 00 01 00 ff e2", 5, 12);
    due(house, "83 e1 60 81 c1 00 00 01 00 ff e1", 5, 9);
    due(house, nops(20) + go, 5, 32);
    due(house, nops(18) + go, 0, -1);
    due(house, go + "eb f0", 0, -1);
    due(house, go + "eb f6", 5, 12);
    due(house, go + "eb fc", 5, 12);
    // 6: goals within an instruction, ahead of the image, behind it, behind CODE.
    due(house, "eb 01 b8 00 00 00 00", 6, 0);
    due(house, "eb fd", 6, 0);
    due(house, "eb fe", 0, -1);
    due(house, "eb 00", 0, -1);
    due(house, "e9 fa ff 00 00", 0, -1);
    due(house, "e9 fb ff 00 00", 6, 0);
    due(house, "0f 84 f9 ff 00 00", 0, -1);
    due(house, "0f 84 fa ff 00 00", 6, 0);
    due(house, "e9 fb ff ff 7f", 6, 0);
    // The first reason of an instruction, and the first instruction of an image.
    due(house, nops(31) + "ff 25 00 00 02 00", 2, 31);
    due(house, nops(30) + "ff 35 00 00 02 00 06", 2, 30);
    due(house, "75 05 50 06", 3, 2);
  }

  /** What goes beyond the image's end is none of its instructions, as what is unknown is none. */
  private static void atTheEnd(MatchHouse house) {
    // A jump to one that is cut goes astray; to one that ends just at the end it does not.
    due(house, "eb 00 e9", 6, 0);
    due(house, "eb 00 e9 00 00 00", 6, 0);
    due(house, "eb 00 e9 00 00 00 00", 0, -1);
    due(house, "75 00 b8 00 00 00", 6, 0);
    due(house, "75 00 b8 00 00 00 00", 0, -1);
    due(house, "75 00 06", 6, 0);
    due(house, "75 00 90", 0, -1);
    due(house, "0f 84 01 00 00 00 90 eb", 6, 0);
    due(house, "0f 84 01 00 00 00 90 eb fe", 0, -1);
    due(house, "75 01 90 b8 00 00", 6, 0);
    due(house, "75 03 90 b8 00 00", 6, 0);
    due(house, "75 04 90 b8 00 00", 1, 3);
    // A cut jump has no goal: it ends no mask, and no row of and, add, jmp.
    due(house, "83 e0 7f 8b 80 00 00 02 00 90 90 90 90 eb", 1, 13);
    due(house, "83 e0 7f 8b 80 00 00 02 00 90 90 90 90 eb f4", 4, 3);
    due(house, "83 e0 7f 8b 80 00 00 02 00 90 90 90 90 75", 1, 13);
    String go = "81 e1 e0 ff 00 00 81 c1 00 00 01 00 ff e1 90 90";
    due(house, go + "eb", 1, 16);
    due(house, go + "eb f4", 5, 12);
    // The cut i32 of a jump: its bytes in the image are no goal, either.
    due(house, "83 e0 7f 8b 80 00 00 02 00 e9 f5 ff ff", 1, 9);
    due(house, "83 e0 7f 8b 80 00 00 02 00 e9 f5 ff ff ff", 4, 3);
    // The last instruction ends at the end of a bundle, or is cut there.
    due(house, nops(27) + "b8 00 00 00 00", 0, -1);
    due(house, nops(27) + "b8 00 00 00", 1, 27);
    due(house, nops(28) + "b8 00 00 00", 1, 28);
    // By calls.
    MatchHouse fresh = new MatchHouse();
    DUES.due("feed", fresh.feed(-2115961088, 35712, 512, -1869574000, -352321536), 20);
    DUES.due("end(17)", fresh.end(17), 17);
    DUES.due("place()", fresh.place(), 17);
    DUES.due("check(0) of a cut jump behind a mask", fresh.check(0), 1);
    DUES.due("check(1) of a cut jump behind a mask", fresh.check(1), 16);
  }

  private static void number(ByteArrayOutputStream out, int v) {
    for (int k = 0; k < 4; k++) {
      out.write(v >> 8 * k);
    }
  }

  private static byte[] structured(Random random) {
    ByteArrayOutputStream out = new ByteArrayOutputStream();
    int many = 1 + random.nextInt(30);
    int jumps = random.nextInt(3);
    for (int k = 0; k < many; k++) {
      int r = random.nextInt(3);
      switch (random.nextInt(11)) {
        case 0:
        case 1:
          out.write(0x81);
          out.write(0xE0 + r);
          int[] masks = {65535, 65532, 65504, 65536, 32, 0, 31, -1, 65520};
          number(out, masks[random.nextInt(masks.length)]);
          break;
        case 2:
          out.write(0x83);
          out.write(0xE0 + r);
          out.write(random.nextInt(140));
          break;
        case 3:
        case 4:
          if (random.nextInt(4) != 0) {
            padded(out, random);
            out.writeBytes(Dues.hex(random.nextBoolean() ? "83e07f83e17f83e27f" : "81e0fcff000081e1fcff000083e200"));
          }
          boolean small = random.nextBoolean();
          out.write(small ? 0x8A : 0x8B);
          out.write(0x80 + 8 * random.nextInt(8) + (random.nextInt(40) == 0 ? 5 : r));
          number(out, 131072 + (random.nextInt(8) == 0 ? random.nextInt(9) - 2 : 0));
          break;
        case 5:
          if (random.nextInt(3) == 0) {
            out.write(0x89);
            out.write(0x05 + 8 * random.nextInt(8));
            number(out, 196608 - random.nextInt(40));
          } else {
            padded(out, random);
          }
          break;
        case 6:
          out.writeBytes(Dues.hex("81e1e0ff000081c100000100ffe1"));
          break;
        case 7:
          if (random.nextInt(4) < jumps) {
            out.write(random.nextBoolean() ? 0xEB : 0x70 + random.nextInt(16));
            out.write(random.nextInt(4) == 0 ? random.nextInt(256) : random.nextInt(24) - 12);
          }
          break;
        default:
          byte[] one = ProcessorTest.randomCode(random, 1);
          if (random.nextInt(3) == 0 && one[0] != 0) {
            out.writeBytes(Dues.hex(new String[] {"40", "42", "99", "89c8", "39c8", "0f44c8",
                "88e1", "f7e1", "d3e0", "c1ea05", "8d8000000000", "0fb6c0", "87d1", "0f94c1"}[
                random.nextInt(14)]));
          } else {
            out.write(0x90);
          }
          break;
      }
      if (random.nextInt(3) == 0) {
        padded(out, random);
      }
    }
    return out.toByteArray();
  }

  private static void padded(ByteArrayOutputStream out, Random random) {
    while (out.size() % 32 > 8) {
      out.write(0x90);
    }
    if (random.nextInt(50) == 0) {
      out.write(random.nextInt(256));
    }
  }
}
