import java.math.BigInteger;

/** "2 A HOLD": nobody, one, two, three who stand there; what is like; the ends of SNEEZES, HOURS, SEEDS. */
public final class HoldsTest {
  private static final Checks CHECKS = new Checks();
  private static final int MIN = Integer.MIN_VALUE, MAX = Integer.MAX_VALUE;
  private static final long NO = -4611686018427387904L;
  private static final String LIKENESS = "-(strength-next)*(strength-next);hands 0;tires 0;";

  private static void due(String call, long got, long want) { CHECKS.due(call, got, want); }

  public static void main(String[] args) {
    few(new WallsOfPrisoners(), "nobody");
    few(nobodyOfSix(), "nobody of six");
    one();
    two();
    three();
    aHoldIsTheLess();
    gates();
    sneezeOfSixty();
    sneezeEnds();
    sneezeByPlaces();
    anHour();
    hoursInThought();
    opens();
    order();
    let();
    letsIn();
    swaps();
    mean();
    drawnBySeeds();
    inSeeds();
    badAheadOfNone();
    CHECKS.end("HoldsTest");
  }

  private static WallsOfPrisoners nobodyOfSix() {
    WallsOfPrisoners x = Prison.of(10, 20, 30, 40, 50, 60);
    for (int one = 0; one < 6; one++) x.out(one);
    return x;
  }

  /** What is due where nobody stands there. */
  private static void few(WallsOfPrisoners x, String who) {
    int[] wall = {-1, 0, -1, 0};
    for (int what = 0; what < 4; what++) due("14: " + who + ", wall(" + what + ")", x.wall(what), wall[what]);
    due("4: " + who + ", PLACE 0", x.told(0, 7), -1000);
    due("4: " + who + ", HOLD 0", x.told(0, 8), -1000);
    due("16: " + who + ", WEAKEST", x.run(40, 0), -1);
    due("16: " + who + ", GATES", x.run(40, 1), 0);
    due("17: " + who, x.opens(), -1);
    due("18: " + who + ", digits", x.order(0), 0);
    due("18: " + who + ", how hard", x.order(1), -1);
    due("19: " + who, x.let(0), -1);
    due("19: " + who + ", how hard", x.let(1), -1);
    due("21: " + who, x.swaps(), 0);
    due("22: " + who + ", above", x.mean(0), NO);
    due("22: " + who + ", below", x.mean(1), NO);
    due("24: " + who, x.film(0), 0);
    due("24: " + who + ", an empty row", x.cell(0, 0, 0), -12);
    due("25: " + who, x.drawn(5, 3), -1);
    due("26: " + who + ", above", x.chance(5, 40, 0, 0), 0);
    due("26: " + who + ", below", x.chance(5, 40, 0, 1), 1);
    due("29: " + who, x.count(1), 0);
    due("13: " + who, x.hour(), -1);
    due("13: " + who + ", HOUR goes on", x.told(0, 0), 1);
    if (x.count(0) > 0) {
      due("20: " + who, x.letsIn(3, 0), -1);
      due("20: " + who + ", how hard", x.letsIn(3, 1), -1);
      due("23: " + who + ", an empty row is so", x.tells(0, 3, 0), -1);
      x.sheet(0, 0, 1);
      due("23: " + who + ", there isn't one", x.tells(0, 3, 0), 0);
      due("13: " + who + ", not SPENT", x.told(3, 3), 40);
      due("11: " + who + ", PLACE 1", x.into(3, 1), -2);
      due("11: " + who + ", PLACE 0", x.into(3, 0), 1);
    }
  }

  private static void one() {
    WallsOfPrisoners x = Prison.of(7, 0, 9);
    x.out(0);
    x.out(2);
    int[] wall = {-1, 0, -1, 1};
    for (int what = 0; what < 4; what++) due("14: one, wall(" + what + ")", x.wall(what), wall[what]);
    due("4: one, PLACE 0", x.told(0, 7), 1);
    due("4: one, PLACE 1", x.told(1, 7), -1000);
    due("4: one, HOLD 0", x.told(0, 8), -1000);
    int[] sneeze = {0, -1, 0};
    for (int what = 0; what < 3; what++) due("15: one, " + what, x.sneeze(1, 99, what), sneeze[what]);
    due("16: one, WEAKEST", x.run(40, 0), -1);
    due("16: one, GATES", x.run(40, 1), 0);
    due("17: one", x.opens(), -1);
    due("18: one, digits", x.order(0), 2);
    due("18: one, how hard", x.order(1), -1);
    due("19: one", x.let(0), -1);
    due("19: one, how hard", x.let(1), -1);
    due("20: one, PLACE", x.letsIn(2, 0), 1);
    due("20: one, how hard", x.letsIn(2, 1), 0);
    due("21: one", x.swaps(), 0);
    due("22: one, above", x.mean(0), 0);
    due("22: one, below", x.mean(1), 1);
    due("24: one", x.film(0), 0);
    due("25: one", x.drawn(5, 3), -1);
    due("26: one", x.chance(5, 40, 0, 0), 0);
    due("13: one", x.hour(), -1);
    x.sheet(0, 0, 1);
    due("23: one, there isn't a HOLD", x.tells(0, 1, 0), 0);
    due("12: one", x.swap(1, 1), -2);
    due("11: one, PLACE 2", x.into(0, 2), -2);
    due("11: one, PLACE 1", x.into(0, 1), 2);
  }

  private static void two() {
    WallsOfPrisoners x = Prison.of(7, 5, 9);
    x.out(2);
    int[] wall = {5, 0, -1, 2};
    for (int what = 0; what < 4; what++) due("14: two, wall(" + what + ")", x.wall(what), wall[what]);
    due("two HOLDS", x.told(0, 8), 5);
    due("alike", x.told(1, 8), 5);
    due("no third", x.told(2, 8), -1000);
    due("24: two", x.film(0), 2);
    due("24: both are told", x.tells(0, 0, 0), -1);
    Prison.row(x, 0, 0, 5, 6);
    due("23: the second is otherwise", x.tells(0, 0, 0), 1);
    Prison.row(x, 0, 0, 5, 5, 5);
    due("23: there isn't a third", x.tells(0, 0, 0), 2);
    due("19: two", x.let(0), -1);
    due("19: two, how hard", x.let(1), -1);
    due("18: two, digits", x.order(0), 12);
    due("18: two, how hard", x.order(1), 5);
    due("20: two, of like ones the first", x.letsIn(2, 0), 1);
    due("25: two", x.drawn(5, 3), 5);
    due("12: two", x.swap(0, 1), 5);
    WallsOfPrisoners apart = likeness(40, 10, 11, 13, 16);
    due("12: WEAKEST then, not ahead", apart.swap(2, 3), 15);
    due("12: WEAKEST is that", apart.wall(0), 15);
    due("12: and back again", apart.swap(3, 2), 4);
    due("18: two, the first one stays", x.order(0), 21);
    int[] sneeze = {3, 1, 1};
    for (int what = 0; what < 3; what++) due("15: two, " + what, x.sneeze(0, 7, what), sneeze[what]);
    x.set(3, 0, 0);
    int[] open = {0, 2, 0, 2};
    for (int what = 0; what < 4; what++) due("14: two GATES, wall(" + what + ")", x.wall(what), open[what]);
    due("21: two GATES", x.swaps(), -1);
    due("17: two GATES", x.opens(), 0);
  }

  private static void three() {
    WallsOfPrisoners x = Prison.of(7, 5, 9);
    due("19: three", x.let(0), 1);
    due("19: three, how hard", x.let(1), 7);
    due("24: three", x.film(0), 3);
    due("the last one's next is the first one", x.told(2, 8), 7);
    due("no fourth", x.told(3, 8), -1000);
    x.man(0, 0, 6);
    due("20: one who is not OUT", x.letsIn(3, 0), -3);
    x.out(3);
    due("20: three", x.letsIn(3, 0), 1);
    due("20: three, how hard", x.letsIn(3, 1), 5);
  }

  private static void aHoldIsTheLess() {
    WallsOfPrisoners x = Prison.of(30, 20, 25);
    int[] want = {20, 20, 25};
    for (int place = 0; place < 3; place++) due("as hard as the less hard, " + place, x.told(place, 8), want[place]);
    x.swap(0, 1);
    int[] other = {20, 25, 20};
    for (int place = 0; place < 3; place++) due("either way round, " + place, x.told(place, 8), other[place]);
    WallsOfPrisoners y = Prison.of(0, 99);
    due("0 and 99", y.told(0, 8), 0);
    y.set(3, 0, 99);
    due("99 and 99", y.told(0, 8), 99);
    due("WEAKEST 99", y.wall(0), 99);
  }

  private static void gates() {
    WallsOfPrisoners x = Prison.of(1, 1, 1, 1);
    due("a HOLD of 1 is no GATE", x.wall(1), 0);
    due("no first GATE", x.wall(2), -1);
    due("nor a change of places", x.swaps(), 0);
    due("nor opens it now", x.opens(), 1);
    x.set(3, 3, 0);
    due("WEAKEST of GATES", x.wall(0), 0);
    due("two GATES", x.wall(1), 2);
    due("the first one", x.wall(2), 2);
    x.swap(0, 3);
    due("the first one is at PLACE 0", x.wall(2), 0);
    x.swap(0, 2);
    due("the first one is at PLACE 0 still", x.wall(2), 0);
    x.swap(1, 3);
    due("GATES at PLACES 0 and 1", x.wall(1) * 10 + x.wall(2), 20);
    for (int one = 0; one < 4; one++) x.set(3, one, 0);
    due("all are GATES", x.wall(1), 4);
  }

  private static void sneezes(String which, WallsOfPrisoners x, int one, int hard, int got, int who, int how) {
    due("15: " + which + ", got by", x.sneeze(one, hard, 0), got);
    due("15: " + which + ", who", x.sneeze(one, hard, 1), who);
    due("15: " + which + ", how hard", x.sneeze(one, hard, 2), how);
  }

  private static void sneezeOfSixty() {
    WallsOfPrisoners x = Prison.of(1, 2, 3, 4, 5, 6, 7);
    Prison.rule(x, "grips 1;hands 1;tires 1;");
    sneezes("59", x, 0, 59, 59, 5, 1);
    sneezes("60", x, 0, 60, 60, 0, 1);
    sneezes("61", x, 0, 61, 60, 0, 2);
    sneezes("99", x, 0, 99, 60, 0, 40);
    sneezes("1", x, 0, 1, 1, 1, 1);
    sneezes("0", x, 0, 0, 0, -1, 0);
    sneezes("from the last one", x, 5, 1, 1, 0, 1);
    sneezes("round to who sneezed", x, 4, 6, 6, 4, 1);
    x.out(1);
    sneezes("who is OUT gets nothing", x, 0, 1, 1, 2, 1);
  }

  private static void sneezeEnds() {
    WallsOfPrisoners x = Prison.of(1, 2, 3);
    Prison.rule(x, "grips 1;hands 5;tires 1;");
    sneezes("as long as it is above 0: 5", x, 0, 5, 1, 1, 5);
    sneezes("as long as it is above 0: 6", x, 0, 6, 2, 2, 1);
    sneezes("4 less 5", x, 0, 4, 1, 1, 4);
    sneezes("the next one gets it so hard as it is", x, 2, 2, 1, 0, 2);
    WallsOfPrisoners y = new WallsOfPrisoners();
    y.man(1, 0, 10);
    y.man(1, 0, 10);
    sneezes("all is handed on, 60 at most", y, 1, 1, 60, 1, 1);
    y.man(1, 0, 10);
    sneezes("of three, 60 at most", y, 1, 99, 60, 1, 99);
    y.set(0, 0, 1);
    y.man(3, 0, 10);
    sneezes("HOUR 1, told as all is", y, 1, 3, 2, 3, 3);
    y.set(0, 0, 2);
    sneezes("HOUR 2, told as all is", y, 1, 3, 60, 1, 3);
  }

  /** THE RING is 2, 1, 0: who stands at a PLACE isn't numbered as it. */
  private static void sneezeByPlaces() {
    WallsOfPrisoners x = new WallsOfPrisoners();
    x.man(1, 0, 10);
    x.man(0, 0, 10);
    x.man(2, 0, 10);
    x.swap(0, 2);
    sneezes("20, 8, 5, 5 and 1, as who stands there hands on", x, 0, 20, 5, 1, 1);
    sneezes("20, 20, 8, 5, 5 and 1", x, 1, 20, 6, 1, 1);
    sneezes("20, 17, 17, 7, 4 and 4", x, 2, 20, 6, 2, 4);
  }

  private static void anHour() {
    WallsOfPrisoners x = Prison.of(9, 8, 7);
    Prison.rule(x, "grips strength;hands 0;tires hour+many-2;");
    due("13: told ahead, of HOUR 0", x.hour(), 6);
    due("13: 9 less 1", x.told(0, 3), 8);
    due("13: the last one, too", x.told(2, 3), 6);
    due("13: of HOUR 1", x.hour(), 4);
    due("13: HOUR is 1 more", x.told(0, 0), 2);
    x.set(0, 0, 997);
    due("13: HOUR 997 passes", x.hour(), 0);
    due("13: HOUR 998 passes", x.hour(), 0);
    due("13: HOUR 999 doesn't", x.hour(), -3);
    due("13: HOUR is 999", x.told(0, 0), 999);
    x.set(0, 0, 998);
    due("13: HOUR 998 passes again", x.hour(), 0);
  }

  private static void hoursInThought() {
    WallsOfPrisoners x = Prison.of(50, 39, 40, 41);
    x.out(0);
    due("16: WEAKEST behind 39", x.run(39, 0), 0);
    due("16: WEAKEST behind 38", x.run(38, 0), 1);
    due("16: GATES behind 39", x.run(39, 1), 2);
    due("16: GATES behind 40", x.run(40, 1), 3);
    due("16: of one who stands there", x.run(40, 11), 0);
    due("16: of the last one", x.run(40, 13), 1);
    due("16: of one who is OUT", x.run(40, 10), 50);
    due("16: now", x.run(0, 0), 39);
    due("16: in thought", x.told(0, 0) * 100 + x.told(1, 3), 39);
    x.set(0, 0, 998);
    due("16: HOUR 998 and 40", x.run(40, 13), 1);
    Prison.rule(x, "grips 20;hands 0;tires 999<hour;");
    due("16: HOUR 999 is not above 999", x.run(2, 11), 39);
    due("16: HOUR 1000 is", x.run(3, 11), 38);
    due("16: HOUR up to 1037", x.run(40, 11), 1);
    due("16: HOUR stays", x.told(0, 0), 998);
    WallsOfPrisoners y = new WallsOfPrisoners();
    y.man(4, 0, 10);
    y.man(4, 0, 10);
    Prison.rule(y, "grips 0;hands 0;tires 0;");
    due("16: LONGER, behind 19", y.run(19, 0), 19);
    due("16: LONGER, behind 20", y.run(20, 0), 20);
    due("16: LONGER, behind 21", y.run(21, 0), 20);
    due("16: LONGER, a GATE now", y.run(0, 1), 2);
    due("16: LONGER, no GATE behind 1", y.run(1, 1), 0);
  }

  private static void opens() {
    due("17: now", Prison.of(0, 9).opens(), 0);
    due("17: behind 1", Prison.of(1, 9).opens(), 1);
    due("17: behind 59", Prison.of(59, 99).opens(), 59);
    due("17: behind 60", Prison.of(60, 99).opens(), 60);
    due("17: not behind 61", Prison.of(61, 99).opens(), -1);
    WallsOfPrisoners x = Prison.of(5, 6, 0);
    x.out(2);
    due("17: of those who stand there", x.opens(), 5);
    x.set(0, 0, 999);
    due("17: HOUR 999", x.opens(), 5);
    Prison.rule(x, "grips hour<1059;hands 0;tires 0;");
    due("17: HOUR 1059 is behind 60", x.opens(), 60);
    Prison.rule(x, "grips hour<1060;hands 0;tires 0;");
    due("17: HOUR 1060 is too far", x.opens(), -1);
    Prison.rule(x, "grips not (hour=1001);hands 0;tires 0;");
    due("17: a GATE that closes again", x.opens(), 2);
    due("17: HOUR stays", x.told(0, 0), 999);
  }

  private static WallsOfPrisoners likeness(int hardest, int... strengths) {
    WallsOfPrisoners x = Prison.of(strengths);
    Prison.rule(x, "grips " + hardest + LIKENESS);
    return x;
  }

  private static void order() {
    WallsOfPrisoners x = Prison.of(9, 9, 9, 9, 9, 9);
    due("18: all are alike", x.order(0), 123456);
    for (int i = 0; i < 3; i++) x.swap(i, 5 - i);
    due("18: the first one stays, the others by numbers", x.order(0), 612345);
    due("18: how hard", x.order(1), 9);
    due("18: in thought", Prison.ring(x), 654321);
    x.out(3);
    x.out(5);
    due("18: of those who stand there", x.order(0), 5123);
    for (int one = 0; one < 6; one++) x.set(3, one, 0);
    due("18: GATES alike", x.order(0), 5123);
    due("18: how hard, GATES", x.order(1), 0);
    WallsOfPrisoners y = likeness(40, 10, 13, 11, 12);
    due("18: either way round is alike, the first by PLACE 1", y.order(0), 1324);
    due("18: how hard, by the worst", y.order(1), 36);
    y.swap(0, 3);
    due("18: another one stays first", y.order(0), 4132);
    WallsOfPrisoners z = likeness(40, 10, 10, 13, 12);
    due("18: of like ones the first, also where the last HOLD round is the weakest of a later one", z.order(0), 1234);
    due("18: how hard, of those", z.order(1), 31);
    due("18: 99", Prison.of(99, 99, 99).order(1), 99);
  }

  private static void let() {
    WallsOfPrisoners x = Prison.of(5, 5, 5, 5);
    due("19: all are alike", x.let(0), 0);
    x.swap(0, 3);
    due("19: all are alike, by numbers, not by PLACES", x.let(0), 0);
    x.out(0);
    due("19: the first who stands there", x.let(0), 1);
    due("19: how hard", x.let(1), 5);
    for (int one = 0; one < 4; one++) x.set(3, one, 0);
    due("19: GATES alike", x.let(0), 1);
    due("19: how hard, GATES", x.let(1), 0);
    WallsOfPrisoners y = Prison.of(5, 6, 7);
    due("19: of three", y.let(0) * 10 + y.let(1), 6);
    Prison.rule(y, "grips many*10;hands 0;tires 0;");
    due("19: many is one fewer", y.let(1), 20);
    due("19: of like ones", y.let(0), 0);
  }

  private static void letsIn() {
    WallsOfPrisoners x = Prison.of(5, 5, 5, 5, 5, 5);
    x.out(2);
    due("20: all are alike", x.letsIn(2, 0), 1);
    due("20: how hard", x.letsIn(2, 1), 5);
    x.set(3, 4, 0);
    due("20: GATES alike", x.letsIn(2, 0), 1);
    due("20: how hard, GATES", x.letsIn(2, 1), 0);
    int[][] rings = {{10, 18, 12, 14}, {12, 10, 18, 14}, {10, 12, 18, 14}};
    for (int place = 1; place <= 3; place++) {
      WallsOfPrisoners y = likeness(99, rings[place - 1]);
      y.out(3);
      due("20: PLACE " + place + " of 1 .. 3", y.letsIn(3, 0), place);
      due("20: how hard at PLACE " + place, y.letsIn(3, 1), 63);
      due("20: in thought", Prison.ring(y), 123);
    }
    WallsOfPrisoners alone = Prison.of(5, 6);
    alone.out(0);
    due("20: one stands there", alone.letsIn(0, 0) * 10 + alone.letsIn(0, 1), 15);
    Prison.rule(alone, "grips many*10;hands 0;tires 0;");
    due("20: many is one more", alone.letsIn(0, 1), 20);
  }

  private static void swaps() {
    WallsOfPrisoners x = likeness(5, 10, 12, 14, 13, 11);
    due("21: none is asked", x.swaps(), 0);
    x.swap(0, 2);
    due("21: one change, of two who stand apart", x.swaps(), 1);
    x.swap(2, 3);
    due("21: one change is no more enough", x.swaps(), 2);
    due("21: in thought", Prison.ring(x), 42135);
    WallsOfPrisoners y = likeness(1, 10, 10, 50, 50);
    due("21: by none of these", y.swaps(), -1);
    WallsOfPrisoners z = likeness(10, 10, 11);
    due("21: three, none is asked", z.swaps(), 0);
    z.set(3, 0, 50);
    due("21: three, by none of these", z.swaps(), -1);
    WallsOfPrisoners out = Prison.of(5, 0, 6);
    due("21: one who is in the way", out.swaps(), -1);
    out.out(1);
    due("21: who is OUT is not in the way", out.swaps(), 0);
  }

  private static void meanIs(String which, long above, long below, int... strengths) {
    WallsOfPrisoners x = Prison.of(strengths);
    due("22: " + which + ", above", x.mean(0), above);
    due("22: " + which + ", below", x.mean(1), below);
  }

  private static void mean() {
    meanIs("0 of six", 0, 1, 0, 0, 0, 0, 0, 0);
    meanIs("all that can be", 99, 1, 99, 99, 99, 99, 99, 99);
    meanIs("no common divisor", 97, 6, 17, 16, 16, 16, 16, 16);
    meanIs("by 2", 49, 3, 18, 16, 16, 16, 16, 16);
    meanIs("by 3", 33, 2, 19, 16, 16, 16, 16, 16);
    meanIs("by 6", 17, 1, 22, 16, 16, 16, 16, 16);
    meanIs("less than 1", 1, 6, 1, 0, 0, 0, 0, 0);
    meanIs("1", 1, 1, 1);
  }

  /** THE RING that is DRAWN, told by numbers without a bound. */
  private static int[] ringDrawn(int seed, int n, int standing) {
    int[] ring = new int[standing];
    for (int i = 0; i < standing; i++) ring[i] = i;
    BigInteger all = BigInteger.ONE.shiftLeft(32);
    BigInteger z = BigInteger.valueOf(seed).mod(all);
    int[] places = new int[2];
    for (int i = 0; i < 2 * n; i++) {
      z = z.multiply(BigInteger.valueOf(1103515245)).add(BigInteger.valueOf(12345)).mod(all);
      places[i % 2] = z.shiftRight(9).mod(BigInteger.valueOf(8)).intValue();
      if (i % 2 == 1 && places[0] < standing && places[1] < standing) {
        int one = ring[places[0]];
        ring[places[0]] = ring[places[1]];
        ring[places[1]] = one;
      }
    }
    return ring;
  }

  private static int weakest(int[] ring, int[] strengths, int hardest) {
    int least = 99;
    for (int i = 0; i < ring.length; i++) {
      int apart = strengths[ring[i]] - strengths[ring[(i + 1) % ring.length]];
      least = Math.min(least, Math.max(0, hardest - apart * apart));
    }
    return least;
  }

  private static void drawnBySeeds() {
    int[] strengths = {10, 11, 13, 16, 18, 19};
    int[] seeds = {MIN, MIN + 1, -65536, -2, -1, 0, 1, 2, 12345, 1103515245, MAX - 1, MAX};
    for (int standing = 2; standing <= 6; standing++) {
      WallsOfPrisoners x = likeness(99, strengths);
      for (int one = standing; one < 6; one++) x.out(one);
      for (int seed : seeds) {
        for (int n : new int[] {0, 1, 2, 3, 5, 39, 40}) {
          due("25: " + standing + ", drawn(" + seed + ", " + n + ")", x.drawn(seed, n), weakest(ringDrawn(seed, n, standing), strengths, 99));
        }
      }
      due("25: in thought", Prison.ring(x) % 10, standing);
    }
  }

  private static void badAheadOfNone() {
    for (WallsOfPrisoners x : new WallsOfPrisoners[] {new WallsOfPrisoners(), Prison.of(5)}) {
      due("25: BAD, though fewer than two stand there", x.drawn(1, 41), -2);
      due("25: BAD below 0, though fewer than two stand there", x.drawn(1, -1), -2);
      due("18: BAD, though fewer than two stand there", x.order(2), -2);
      due("19: BAD, though fewer than three stand there", x.let(2), -2);
      due("14: BAD, though fewer than two stand there", x.wall(4), -2);
      due("26: NO, though fewer than two stand there", x.chance(1, 0, 0, 0), NO);
    }
    WallsOfPrisoners y = Prison.of(5);
    y.out(0);
    due("20: BAD, though nobody stands there", y.letsIn(0, 2), -2);
    due("22: NO, though nobody stands there", y.mean(2), NO);
  }

  private static void inSeeds() {
    int[] strengths = {10, 11, 13, 16, 18, 19};
    WallsOfPrisoners x = likeness(99, strengths);
    for (int seed : new int[] {MIN, -20, -1, 0, 7, MAX - 39, MAX - 38, MAX - 1, MAX}) {
      for (int m : new int[] {1, 2, 39, 40}) {
        for (int k : new int[] {0, 18, 35, 50, 51, 63, 64, 99}) {
          int good = 0;
          for (int i = 0; i < m; i++) if (weakest(ringDrawn(seed + i, 6, 6), strengths, 99) >= k) good++;
          String call = "26: chance(" + seed + ", " + m + ", " + k + ")";
          long above = x.chance(seed, m, k, 0), below = x.chance(seed, m, k, 1);
          CHECKS.holds(call + " is " + good + " of " + m, above * m == below * good);
          CHECKS.holds(call + " in lowest terms", BigInteger.valueOf(above).gcd(BigInteger.valueOf(below)).intValue() == 1);
          x = m == 40 && k == 99 ? likeness(99, strengths) : x;
        }
      }
    }
    int weak = x.drawn(7, 6);
    due("26: k is just reached", x.chance(7, 1, weak, 0), 1);
    due("26: k is missed by 1", x.chance(7, 1, weak + 1, 0), 0);
  }
}
