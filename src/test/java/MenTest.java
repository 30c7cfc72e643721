/** Promises 1 to 6: a new object, set, man, told, grips, hands. */
public final class MenTest {
  private static final Checks CHECKS = new Checks();
  private static final int MIN = Integer.MIN_VALUE, MAX = Integer.MAX_VALUE;

  private static void due(String call, long got, long want) { CHECKS.due(call, got, want); }

  public static void main(String[] args) {
    aNewObject();
    set();
    man();
    told();
    gripsOfKinds();
    gripsBounds();
    gripsRefused();
    handsOfKinds();
    handsRefused();
    spent();
    CHECKS.end("MenTest");
  }

  private static void aNewObject() {
    WallsOfPrisoners x = new WallsOfPrisoners();
    long[] counts = {0, 0, 0, 1, 0, 0};
    for (int what = 0; what < 6; what++) due("1: count(" + what + ")", x.count(what), counts[what]);
    due("1: HOUR", x.told(0, 0), 0);
    due("1: COLD", x.told(0, 1), 0);
    due("1: nobody", x.told(0, 2), -1000);
    due("1: back()", x.back(), -3);
    for (int sheet = 0; sheet < 4; sheet++) due("1: sheets are missing", x.cell(sheet, 0, 0), -11);
    x.man(0, 0, 1);
    due("1: another object is apart", new WallsOfPrisoners().count(0), 0);
  }

  private static void set() {
    WallsOfPrisoners x = new WallsOfPrisoners();
    due("2: HOUR", x.set(0, MIN, 999), 0);
    due("2: HOUR again", x.set(0, MAX, 0), 999);
    due("2: COLD", x.set(1, -1, 99), 0);
    due("2: COLD again", x.set(1, 77, 5), 99);
    due("2: no such man", x.set(2, 0, 1), -2);
    x.man(1, 4, 30);
    x.man(5, 2, 40);
    due("2: NUMBER", x.set(2, 0, 9), 4);
    due("2: STRENGTH", x.set(3, 1, 99), 40);
    due("2: NUMBER is", x.told(0, 2), 9);
    due("2: STRENGTH is", x.told(1, 3), 99);
    due("2: another's stays", x.told(0, 3), 30);
    due("2: COLD is", x.told(0, 1), 5);
    x.out(0);
    due("2: one who is OUT", x.set(3, 0, 7), 30);
    int[][] bad = {{0, 0, 1000}, {0, 0, -1}, {1, 0, 100}, {1, 0, -1}, {2, 0, 10}, {2, 0, -1}, {3, 0, 100}, {3, 0, -1},
        {4, 0, 0}, {-1, 0, 0}, {2, 2, 0}, {3, -1, 0}, {3, MAX, 0}, {2, MIN, 0}, {MAX, 0, 0}, {MIN, 0, 0}, {0, 0, MAX}, {1, 0, MIN}};
    for (int[] b : bad) due("2: set(" + b[0] + ", " + b[1] + ", " + b[2] + ")", x.set(b[0], b[1], b[2]), -2);
    due("2: a refusal changes nothing", x.told(0, 0) * 1000 + x.told(0, 1) * 100 + x.told(0, 2) * 10 + x.told(0, 3), 597);
  }

  private static void man() {
    WallsOfPrisoners x = new WallsOfPrisoners();
    int[][] bad = {{6, 0, 0}, {-1, 0, 0}, {0, 10, 0}, {0, -1, 0}, {0, 0, 100}, {0, 0, -1}, {MAX, 0, 0}, {0, MIN, 0}, {0, 0, MIN}};
    for (int[] b : bad) due("3: man(" + b[0] + ", " + b[1] + ", " + b[2] + ")", x.man(b[0], b[1], b[2]), -2);
    due("3: a refusal brings nobody", x.count(0) + x.count(1), 0);
    for (int i = 0; i < 6; i++) due("3: number", x.man(i, 9 - i, 99 * (i % 2)), i);
    due("3: all stand one behind the other", Prison.ring(x), 123456);
    due("3: FULL", x.man(0, 0, 0), -4);
    due("3: BAD ahead of FULL", x.man(6, 0, 0), -2);
    x.out(0);
    due("3: FULL by those who are OUT, too", x.man(0, 0, 0), -4);
    WallsOfPrisoners y = Prison.of(1, 2, 3);
    y.out(0);
    y.man(0, 0, 4);
    due("3: one who comes stands last", Prison.ring(y), 234);
  }

  private static void told() {
    WallsOfPrisoners x = new WallsOfPrisoners();
    x.man(4, 2, 9);
    x.man(5, 7, 40);
    x.man(1, 3, 12);
    x.set(0, 0, 6);
    x.set(1, 0, 21);
    x.swap(0, 2);
    x.out(1);
    due("4: HOUR of nobody", x.told(MIN, 0), 6);
    due("4: COLD of nobody", x.told(MAX, 1), 21);
    long[][] want = {{2, 9, 4, 1, 2}, {7, 40, 5, -1, 0}, {3, 12, 1, 0, 0}};
    for (int one = 0; one < 3; one++) {
      for (int what = 2; what < 7; what++) due("4: told(" + one + ", " + what + ")", x.told(one, what), want[one][what - 2]);
    }
    due("4: who stands first", x.told(0, 7), 2);
    due("4: who stands next", x.told(1, 7), 0);
    due("4: no PLACE", x.told(2, 7), -1000);
    due("4: no HOLD", x.told(2, 8), -1000);
    x.set(1, 0, 1);
    due("4: HOLD", x.told(0, 8), 11);
    due("4: of two there are two HOLDS alike", x.told(1, 8), x.told(0, 8));
    x.out(0);
    due("4: alone there is no HOLD", x.told(0, 8), -1000);
    due("4: alone there is a PLACE", x.told(0, 7), 2);
    for (int what = 2; what < 9; what++) {
      for (int of : new int[] {3, -1, MIN, MAX}) due("4: told(" + of + ", " + what + ")", x.told(of, what), -1000);
    }
    for (int what : new int[] {9, -1, MIN, MAX}) due("4: told(0, " + what + ")", x.told(0, what), -1000);
  }

  private static void gripsOfKinds() {
    WallsOfPrisoners x = new WallsOfPrisoners();
    x.man(0, 0, 30);
    x.man(1, 3, 31);
    x.man(2, 4, 32);
    x.man(3, 3, 33);
    x.man(4, 5, 34);
    x.man(5, 6, 35);
    x.set(1, 0, 2);
    x.set(0, 0, 7);
    long[][] want = {
        {-2, 28, 28, 28, 28, 28},
        {29, -2, 29, 58, 29, 29},
        {26, 26, -2, 26, 26, 26},
        {31, 99, 31, -2, 31, 31},
        {34, 34, 34, 34, -2, 34},
        {35, 35, 35, 35, 35, -2}};
    for (int one = 0; one < 6; one++) {
      for (int other = 0; other < 6; other++) {
        due("5: grips(" + one + ", " + other + ")", x.grips(one, other), want[one][other]);
      }
    }
    x.set(2, 3, 8);
    due("5: TWIN to a BROTHER of another NUMBER", x.grips(3, 1), 62);
    x.set(2, 3, 0);
    due("5: TWIN to a MAN of like NUMBER", x.grips(3, 0), 99);
    x.out(0);
    x.out(1);
    due("5: anywhere", x.grips(1, 0), 29);
    x.set(0, 0, 20);
    due("5: LONGER, HOUR 20", x.grips(4, 0), 47);
    x.set(0, 0, 21);
    due("5: LONGER, 20 at most", x.grips(4, 0), 47);
    x.set(0, 0, 19);
    due("5: LONGER, HOUR 19", x.grips(4, 0), 46);
  }

  private static void gripsBounds() {
    WallsOfPrisoners x = new WallsOfPrisoners();
    x.man(1, 0, 50);
    x.man(3, 9, 49);
    x.man(2, 9, 8);
    x.man(4, 9, 3);
    x.man(5, 9, 1);
    due("5: twice 50", x.grips(0, 1), 99);
    due("5: twice 49", x.grips(1, 0), 98);
    due("5: below 0", x.grips(2, 0), 0);
    x.set(0, 0, 8);
    due("5: the bound is laid once, 3 - 9 + 8", x.grips(3, 0), 2);
    x.set(1, 0, 50);
    due("5: what grips tells has its own bound, 0 - 9 + 8", x.grips(3, 0), 0);
    x.set(0, 0, 15);
    due("5: and 0 - 9 + 15", x.grips(3, 0), 6);
    due("5: GIANT minds no COLD", x.grips(4, 0), 1);
    Prison.rule(x, "grips 9999;hands 0;tires 0;");
    due("5: what grips tells is 99 at most, 99 - 9", x.grips(2, 0), 90);
    due("5: and 99 - 9 + 15", x.grips(3, 0), 99);
  }

  private static void gripsRefused() {
    WallsOfPrisoners x = Prison.of(1, 2);
    int[][] bad = {{0, 0}, {1, 1}, {2, 0}, {0, 2}, {-1, 0}, {0, -1}, {MAX, 0}, {0, MIN}, {7, 7}};
    for (int[] b : bad) due("5: grips(" + b[0] + ", " + b[1] + ")", x.grips(b[0], b[1]), -2);
  }

  private static void handsOfKinds() {
    WallsOfPrisoners x = Prison.ofKinds(0, 0);
    long[][] want = {{0, 0, 0, 0, 0, 7}, {0, 1, 0, 1, 1, 8}, {1, 4, 0, 4, 4, 11}, {2, 5, 1, 5, 1, 12}, {9, 12, 4, 12, 4, 19}, {96, 99, 48, 99, 48, 99}};
    int[] come = {0, 1, 4, 5, 12, 99};
    for (int i = 0; i < come.length; i++) {
      for (int kind = 0; kind < 6; kind++) due("6: hands(" + kind + ", " + come[i] + ")", x.hands(kind, come[i]), want[i][kind]);
    }
    x.set(0, 0, 7);
    due("6: TWIN, HOUR odd", x.hands(3, 12), 9);
    x.set(0, 0, 2);
    due("6: TWIN, HOUR 2", x.hands(3, 12), 12);
    x.set(0, 0, 9);
    due("6: TWIN, HOUR 9", x.hands(3, 12), 9);
    due("6: BROTHER, HOUR odd", x.hands(1, 12), 12);
    due("6: TWIN, HOUR odd, below 0", x.hands(3, 2), 0);
    x.out(0);
    due("6: one who is OUT", x.hands(0, 50), 47);
    Prison.rule(x, "grips 0;hands -20;tires 0;");
    due("6: what hands tells is 0 at least", x.hands(0, 50), 50);
    Prison.rule(x, "grips 0;hands next;tires 0;");
    due("6: next is 0", x.hands(0, 50), 50);
    Prison.rule(x, "grips 0;hands 200;tires 0;");
    due("6: what hands tells is 99 at most, 99 - 99 + 10", x.hands(5, 99), 10);
  }

  private static void handsRefused() {
    WallsOfPrisoners x = Prison.of(1);
    int[][] bad = {{1, 0}, {-1, 0}, {MAX, 0}, {0, 100}, {0, -1}, {0, MAX}, {0, MIN}};
    for (int[] b : bad) due("6: hands(" + b[0] + ", " + b[1] + ")", x.hands(b[0], b[1]), -2);
  }

  private static void spent() {
    WallsOfPrisoners x = Prison.ofKinds(0, 0);
    Prison.rule(x, "grips 0;hands 0;tires 5;");
    long[] want = {5, 2, 6, 2, 0, 0};
    x.set(1, 0, 20);
    for (int kind = 0; kind < 6; kind++) due("4: SPENT of KIND " + kind, x.told(kind, 6), want[kind]);
    x.set(1, 0, 21);
    due("4: LONGER is SPENT above COLD 20", x.told(4, 6), 6);
    Prison.rule(x, "grips 0;hands 0;tires 500;");
    due("4: SPENT, 99 at most, of NEWCOMER", x.told(2, 6), 99);
    due("4: SPENT, half of 99", x.told(1, 6), 49);
    Prison.rule(x, "grips 0;hands 0;tires next-7;");
    due("4: SPENT, 0 at least, and 1 more", x.told(2, 6), 1);
  }
}
