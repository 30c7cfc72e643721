/** Promises 18 to 22: order, let, letsIn, swaps, mean. */
public final class BestTest {
  private static final Checks CHECKS = new Checks();
  private static final int MIN = Integer.MIN_VALUE, MAX = Integer.MAX_VALUE;
  private static final int[] WRONG = {2, -1, MIN, MAX};

  private static void due(String call, long got, long want) { CHECKS.due(call, got, want); }

  /** By this rule a HOLD is the harder, the liker two are. */
  private static WallsOfPrisoners likeness(int hardest, int... strengths) {
    WallsOfPrisoners x = Prison.of(strengths);
    Prison.rule(x, "grips " + hardest + "-(strength-next)*(strength-next);hands 0;tires 0;");
    return x;
  }

  public static void main(String[] args) {
    order();
    orderOfFew();
    let();
    letByMany();
    letsIn();
    letsInRefused();
    swaps();
    mean();
    CHECKS.end("BestTest");
  }

  private static void order() {
    WallsOfPrisoners x = likeness(40, 10, 12, 14, 16, 18, 20);
    due("18: digits", x.order(0), 124653);
    due("18: how hard", x.order(1), 24);
    due("18: in thought", Prison.ring(x), 123456);
    x.swap(0, 5);
    due("18: the first one stays", x.order(0), 642135);
    due("18: how hard", x.order(1), 24);
    WallsOfPrisoners y = Prison.of(9, 8, 7, 6);
    y.swap(1, 3);
    y.swap(0, 2);
    due("18: of like ones the first", y.order(0), 3124);
    due("18: how hard", y.order(1), 6);
    x.out(0);
    x.out(1);
    due("18: of those who stand there", x.order(0), 6435);
    for (int bad : WRONG) due("18: order(" + bad + ")", x.order(bad), -2);
  }

  private static void orderOfFew() {
    WallsOfPrisoners x = new WallsOfPrisoners();
    due("18: nobody", x.order(0), 0);
    due("18: nobody, how hard", x.order(1), -1);
    x.man(0, 0, 4);
    x.man(0, 0, 5);
    due("18: two", x.order(0), 12);
    due("18: two, how hard", x.order(1), 4);
    x.out(0);
    due("18: alone", x.order(0), 2);
    due("18: alone, how hard", x.order(1), -1);
  }

  private static void let() {
    WallsOfPrisoners x = Prison.of(30, 10, 20, 40);
    due("19: the weakest", x.let(0), 1);
    due("19: how hard", x.let(1), 20);
    due("19: in thought", Prison.ring(x), 1234);
    x.swap(0, 1);
    due("19: who, not the PLACE", x.let(0), 1);
    x.swap(0, 1);
    x.set(3, 3, 10);
    due("19: of like ones", x.let(0), 0);
    x.swap(0, 3);
    due("19: the first by numbers", x.let(0), 0);
    due("19: how hard, of like ones", x.let(1), 10);
    x.out(0);
    x.set(3, 2, 5);
    due("19: of those who stand there", x.let(0), 2);
    x.out(1);
    due("19: fewer than three", x.let(0), -1);
    due("19: fewer than three, how hard", x.let(1), -1);
    due("19: nobody", new WallsOfPrisoners().let(0), -1);
    for (int bad : WRONG) due("19: let(" + bad + ")", x.let(bad), -2);
    WallsOfPrisoners y = likeness(90, 10, 11, 19, 12, 13);
    due("19: the others close up", y.let(0) * 100 + y.let(1), 281);
  }

  private static void letByMany() {
    WallsOfPrisoners x = Prison.of(30, 10, 20, 40);
    Prison.rule(x, "grips strength+many*10;hands 0;tires 0;");
    due("19: many is one fewer", x.let(1), 50);
    x.out(1);
    due("20: many is one more", x.letsIn(1, 1), 50);
    due("14: and is as it was", x.wall(0), 50);
  }

  private static void letsIn() {
    WallsOfPrisoners y = likeness(50, 10, 12, 17, 14, 18);
    y.out(4);
    due("20: PLACE", y.letsIn(4, 0), 3);
    due("20: its hardness", y.letsIn(4, 1), 25);
    WallsOfPrisoners x = likeness(50, 10, 14, 18, 20, 16);
    x.out(3);
    due("20: of like ones the first", x.letsIn(3, 0), 2);
    due("20: how hard", x.letsIn(3, 1), 14);
    x.out(4);
    due("20: the last PLACE", x.letsIn(4, 0) * 100 + x.letsIn(4, 1), 314);
    due("20: in thought", Prison.ring(x), 123);
    x.out(2);
    due("20: of two, of like ones the first", x.letsIn(2, 0) * 100 + x.letsIn(2, 1), 100);
    x.out(1);
    due("20: of one", x.letsIn(1, 0) * 100 + x.letsIn(1, 1), 134);
    x.out(0);
    due("20: nobody", x.letsIn(0, 0), -1);
    due("20: nobody, how hard", x.letsIn(0, 1), -1);
  }

  private static void letsInRefused() {
    WallsOfPrisoners x = Prison.of(1, 2);
    due("20: STATE", x.letsIn(0, 0), -3);
    due("20: BAD ahead of STATE", x.letsIn(0, 2), -2);
    x.out(0);
    int[][] bad = {{2, 0}, {-1, 0}, {MAX, 1}, {MIN, 0}, {0, 2}, {0, -1}, {0, MAX}, {0, MIN}};
    for (int[] b : bad) due("20: letsIn(" + b[0] + ", " + b[1] + ")", x.letsIn(b[0], b[1]), -2);
  }

  private static void swaps() {
    due("21: nobody", new WallsOfPrisoners().swaps(), 0);
    due("21: alone", Prison.of(0).swaps(), 0);
    due("21: no GATE", Prison.of(1, 2, 3).swaps(), 0);
    due("21: two with a GATE", Prison.of(0, 2).swaps(), -1);
    WallsOfPrisoners x = likeness(40, 10, 12, 14, 16, 18, 20);
    due("21: one change", x.swaps(), 1);
    due("21: in thought", Prison.ring(x), 123456);
    x.swap(0, 2);
    due("21: none behind it", x.swaps(), 0);
    WallsOfPrisoners y = likeness(20, 10, 12, 14, 16, 18, 20);
    y.swap(2, 3);
    y.swap(2, 5);
    due("21: the one ring without a GATE", y.swaps(), 0);
    y.swap(1, 5);
    due("21: one from it", y.swaps(), 1);
    y.swap(0, 3);
    due("21: two from it", y.swaps(), 2);
    WallsOfPrisoners first = likeness(20, 10, 12, 14, 16, 18, 20);
    first.swap(2, 3);
    first.swap(2, 5);
    first.swap(0, 5);
    due("21: one, by who stands first", first.swaps(), 1);
    WallsOfPrisoners z = likeness(20, 10, 12, 14, 16, 18, 20);
    z.swap(4, 2);
    due("21: more than two from it", z.swaps(), -1);
  }

  private static void mean() {
    long no = -4611686018427387904L;
    due("22: nobody", new WallsOfPrisoners().mean(0), no);
    WallsOfPrisoners x = Prison.of(10, 11, 13);
    due("22: above", x.mean(0), 34);
    due("22: below", x.mean(1), 3);
    x.set(3, 2, 12);
    due("22: lowest terms, above", x.mean(0), 11);
    due("22: lowest terms, below", x.mean(1), 1);
    x.out(0);
    due("22: of those who stand there", x.mean(0) * 10 + x.mean(1), 232);
    WallsOfPrisoners alone = Prison.of(8);
    due("22: alone", alone.mean(0) * 10 + alone.mean(1), 81);
    WallsOfPrisoners y = Prison.of(0, 0);
    due("22: 0", y.mean(0), 0);
    due("22: 0 by 1", y.mean(1), 1);
    WallsOfPrisoners z = Prison.of(99, 99, 99, 99, 99, 95);
    due("22: six, above", z.mean(0), 295);
    due("22: six, below", z.mean(1), 3);
    for (int bad : WRONG) due("22: mean(" + bad + ")", x.mean(bad), no);
    x.out(1);
    x.out(2);
    due("22: all are OUT", x.mean(1), no);
  }
}
