/** Promises 23 to 29: tells, film, drawn, chance, image, back, count. */
public final class ToldTest {
  private static final Checks CHECKS = new Checks();
  private static final int MIN = Integer.MIN_VALUE, MAX = Integer.MAX_VALUE;
  private static final long NO = -4611686018427387904L;

  private static void due(String call, long got, long want) { CHECKS.due(call, got, want); }

  /** What tells() answers of one, what 0 .. 7. */
  private static void tells(String of, WallsOfPrisoners x, int sheet, int one, int... want) {
    for (int what = 0; what < 8; what++) due("23: " + of + ", what " + what, x.tells(sheet, one, what), want[what]);
  }

  public static void main(String[] args) {
    tellsOfHolds();
    tellsOfFew();
    tellsRefused();
    film();
    drawn();
    drawnOfFew();
    chance();
    image();
    backOfMen();
    count();
    CHECKS.end("ToldTest");
  }

  /** A MAN, a BROTHER, a TWIN: HOLDS of 12, 24, 25. */
  private static WallsOfPrisoners three() {
    WallsOfPrisoners x = new WallsOfPrisoners();
    x.man(0, 0, 30);
    x.man(1, 3, 12);
    x.man(3, 3, 25);
    return x;
  }

  private static void tellsOfHolds() {
    WallsOfPrisoners x = three();
    Prison.row(x, 0, 0, 12, 24, 25);
    tells("of one", x, 0, 1, -1, 2, 1023, 1, 12, 1, 0, 1);
    due("23: STRENGTHS of another, how many", x.tells(0, 0, 3), 75);
    due("23: STRENGTHS of another, the least", x.tells(0, 0, 4), 25);
    due("23: nothing is changed", x.told(1, 3) * 100 + x.told(1, 2) * 10 + x.told(1, 4), 1231);
    Prison.text(x, "grips strength;hands 0;tires 0;");
    Prison.text(x, "grips strength+cold*cold;hands 0;tires 0;");
    Prison.text(x, "grips 1;hands 0;tires 0;");
    due("23: TEXTS", x.tells(0, 1, 7), 7);
    x.force(2);
    x.set(1, 0, 5);
    due("23: the first that is otherwise", x.tells(0, 1, 0), 0);
    due("23: COLDS, how many", x.tells(0, 1, 5), 1);
    due("23: COLDS, the least", x.tells(0, 1, 6), 0);
    due("23: TEXTS, in COLD", x.tells(0, 1, 7), 2);
    due("23: nothing is changed", x.told(0, 1) * 10 + x.count(5), 52);
    x.force(1);
    due("23: any COLD, how many", x.tells(0, 1, 5), 100);
    due("23: any COLD, the least", x.tells(0, 1, 6), 0);
  }

  private static void tellsOfFew() {
    WallsOfPrisoners x = three();
    Prison.row(x, 1, 2, 12);
    tells("one HOLD is told", x, 1, 1, -1, 43, 1023, 1, 12, 1, 0, 1);
    Prison.row(x, 2, 1, 12, 23);
    tells("one is otherwise", x, 2, 2, 1, 0, 0, 0, -1, 0, -1, 0);
    Prison.row(x, 2, 1, 12, 24, 25, 12);
    tells("there isn't such a HOLD", x, 2, 1, 3, 0, 0, 0, -1, 0, -1, 0);
    Prison.row(x, 2, 1, 0, 0, 25);
    due("23: NUMBERS by COLD", x.tells(2, 1, 2), 0);
    x.set(2, 1, 4);
    Prison.row(x, 2, 1, 12, 24, 25);
    due("23: NUMBERS, as a NEWCOMER has", x.tells(2, 1, 2), 1023);
    x.out(0);
    Prison.row(x, 2, 1, 24, 24);
    due("23: one who is OUT, by all KINDS", x.tells(2, 0, 1), 63);
    Prison.row(x, 2, 1, 24, 25);
    due("23: one who is OUT, by none", x.tells(2, 0, 1), 0);
    x.sheet(3, 0, 0);
    tells("nothing is told", x, 3, 2, -1, 63, 1023, 100, 0, 100, 0, 1);
    x.out(1);
    x.sheet(3, 0, 1);
    due("23: alone there is no HOLD", x.tells(3, 2, 0), 0);
    WallsOfPrisoners y = new WallsOfPrisoners();
    y.man(2, 4, 20);
    y.man(0, 0, 50);
    Prison.row(y, 0, 0, 16, 16);
    due("23: NUMBERS of a NEWCOMER", y.tells(0, 0, 2), 16);
    due("23: KINDS", y.tells(0, 0, 1), 20);
    due("23: COLDS of a NEWCOMER", y.tells(0, 0, 5) * 100 + y.tells(0, 0, 6), 100);
    Prison.row(y, 0, 0, 0, 0);
    due("23: STRENGTHS of a NEWCOMER, how many", y.tells(0, 0, 3), 5);
    due("23: COLDS, how many", y.tells(0, 0, 5), 84);
    due("23: COLDS, the least", y.tells(0, 0, 6), 16);
  }

  private static void tellsRefused() {
    WallsOfPrisoners x = three();
    Prison.row(x, 0, 0, 12, 24, 25);
    x.sheet(1, 0, 7);
    x.sheet(2, 0, 6);
    int[][] bad = {{4, 0, 0}, {-1, 0, 0}, {MAX, 0, 0}, {0, 3, 0}, {0, -1, 0}, {0, MIN, 0}, {0, 0, 8}, {0, 0, -1}, {0, 0, MAX},
        {3, 3, 0}, {3, 0, 8}, {1, 0, 0}, {1, 0, 7}};
    for (int[] b : bad) due("23: tells(" + b[0] + ", " + b[1] + ", " + b[2] + ")", x.tells(b[0], b[1], b[2]), -2);
    due("23: missing", x.tells(3, 0, 0), -11);
    due("23: six are few enough", x.tells(2, 0, 0), 0);
    due("23: nobody to ask of", new WallsOfPrisoners().tells(0, 0, 0), -2);
  }

  private static void film() {
    WallsOfPrisoners x = three();
    x.sheet(0, 2, 40);
    due("24: how many", x.film(0), 3);
    due("24: as they are", x.tells(0, 0, 0), -1);
    due("24: no more of them", x.cell(0, 3, 0), -12);
    due("24: bytes", x.chain(0, 0, 0, 0), 0);
    x.cell(0, 0, 268);
    due("24: bytes are cut", x.tells(0, 0, 0), -1);
    x.swap(0, 1);
    due("24: from PLACE 0 on", x.film(1), 3);
    int[] want = {12, 25, 24};
    for (int i = 0; i < 3; i++) due("24: HOLD " + i, x.told(i, 8), want[i]);
    due("24: filmed", x.tells(1, 0, 0), -1);
    due("24: the other way it is otherwise", x.tells(0, 0, 0), 1);
    x.out(0);
    due("24: of two", x.film(3), 2);
    x.out(1);
    due("24: alone", x.film(3), 0);
    due("24: an empty row", x.cell(3, 0, 0), -12);
    for (int bad : new int[] {4, -1, MIN, MAX}) due("24: film(" + bad + ")", x.film(bad), -2);
  }

  private static WallsOfPrisoners likeness(int... strengths) {
    WallsOfPrisoners x = Prison.of(strengths);
    Prison.rule(x, "grips 90-(strength-next)*(strength-next);hands 0;tires 0;");
    return x;
  }

  private static void drawn() {
    WallsOfPrisoners x = likeness(10, 11, 12, 13, 14, 15);
    int[] want = {65, 65, 74, 74, 74, 74, 65, 65, 65};
    for (int n = 0; n < want.length; n++) due("25: drawn(1, " + n + ")", x.drawn(1, n), want[n]);
    due("25: in thought", Prison.ring(x), 123456);
    due("25: drawn(2, 6)", x.drawn(2, 6), 74);
    due("25: drawn(7, 2)", x.drawn(7, 2), 81);
    due("25: drawn(7, 3)", x.drawn(7, 3), 65);
    x.out(5);
    int[] five = {74, 74, 81};
    for (int n = 0; n < 3; n++) due("25: five, drawn(-5, " + n + ")", x.drawn(-5, n), five[n]);
    for (int bad : new int[] {41, -1, MIN, MAX}) due("25: drawn(0, " + bad + ")", x.drawn(0, bad), -2);
    due("25: 40", x.drawn(MIN, 40) > 0 ? 1 : 0, 1);
  }

  private static void drawnOfFew() {
    WallsOfPrisoners x = new WallsOfPrisoners();
    due("25: nobody", x.drawn(1, 3), -1);
    due("25: nobody, BAD", x.drawn(1, 41), -2);
    x.man(0, 0, 9);
    due("25: alone", x.drawn(1, 3), -1);
    x.man(0, 0, 8);
    due("25: two", x.drawn(1, 40), 8);
  }

  private static void chance() {
    WallsOfPrisoners x = likeness(10, 11, 12, 13, 14, 15);
    due("26: one of two, above", x.chance(1, 2, 74, 0), 1);
    due("26: one of two, below", x.chance(1, 2, 74, 1), 2);
    due("26: both, lowest terms", x.chance(1, 2, 65, 0) * 10 + x.chance(1, 2, 65, 1), 11);
    due("26: none, lowest terms", x.chance(1, 2, 75, 0) * 10 + x.chance(1, 2, 75, 1), 1);
    due("26: k or more", x.chance(2, 1, 74, 0), 1);
    due("26: k 99", x.chance(2, 1, 99, 0), 0);
    int good = 0;
    for (int i = 0; i < 40; i++) if (x.drawn(MAX - 20 + i, 6) >= 74) good++;
    due("26: over the last int, as often as drawn() tells", x.chance(MAX - 20, 40, 74, 0) * 40, good * x.chance(MAX - 20, 40, 74, 1));
    int[][] bad = {{0, 0, 0}, {41, 0, 0}, {-1, 0, 0}, {MAX, 0, 0}, {1, 100, 0}, {1, -1, 0}, {1, MIN, 0}, {1, 0, 2}, {1, 0, -1}, {1, 0, MAX}};
    for (int[] b : bad) due("26: chance(0, " + b[0] + ", " + b[1] + ", " + b[2] + ")", x.chance(0, b[0], b[1], b[2]), NO);
    WallsOfPrisoners y = Prison.of(9);
    due("26: alone, none", y.chance(0, 7, 0, 0) * 10 + y.chance(0, 7, 0, 1), 1);
  }

  private static void image() {
    WallsOfPrisoners x = three();
    Prison.text(x, "grips 1;hands 0;tires 0;");
    x.out(1);
    x.set(0, 0, 8);
    x.set(1, 0, 9);
    due("27: how many MEN", x.image(), 3);
    x.into(1, 0);
    x.swap(1, 2);
    x.set(0, 0, 1);
    x.set(1, 0, 2);
    x.set(2, 0, 5);
    x.set(3, 1, 6);
    x.force(1);
    x.sheet(0, 0, 1);
    Prison.text(x, "grips 2;hands 0;tires 0;");
    Prison.feed(x, "abc");
    due("28: how many MEN", x.back(), 3);
    due("28: THE RING", Prison.ring(x), 13);
    due("28: HOUR, COLD", x.told(0, 0) * 10 + x.told(0, 1), 89);
    due("28: NUMBER, STRENGTH", x.told(0, 2) * 100 + x.told(1, 3), 12);
    due("28: THE RULE", x.count(5), 0);
    due("28: TEXTS stay", x.count(3), 3);
    due("28: THE TAPE stays", x.count(4), 3);
    due("28: SHEETS stay", x.cell(0, 0, 1), 1);
    x.hour();
    x.out(0);
    due("28: again", x.back(), 3);
    due("28: THE RING, HOUR", Prison.ring(x) * 10 + x.told(0, 0), 138);
    x.out(0);
    due("27: a newer one", x.image(), 3);
    x.into(0, 0);
    x.back();
    due("28: by the newer one", Prison.ring(x), 3);
  }

  private static void backOfMen() {
    WallsOfPrisoners x = new WallsOfPrisoners();
    due("28: STATE", x.back(), -3);
    due("27: nobody", x.image(), 0);
    x.man(0, 1, 1);
    due("28: nobody", x.back(), 0);
    due("28: from THE RING, too", x.count(1), 0);
    x.man(1, 2, 3);
    due("27: one", x.image(), 1);
    x.man(2, 3, 4);
    x.swap(0, 1);
    due("28: one", x.back(), 1);
    due("28: who stands there", Prison.ring(x), 1);
    due("28: who came since goes", x.told(1, 4), -1000);
    due("3: another one comes", x.man(5, 6, 7), 1);
    due("3: of another KIND", x.told(1, 4), 5);
    due("28: the KIND of who stays", x.told(0, 4), 1);
  }

  private static void count() {
    WallsOfPrisoners x = three();
    x.out(2);
    x.set(0, 0, 77);
    Prison.rule(x, "grips 1;hands 0;tires 0;");
    Prison.text(x, "grips 1;hands 0;tires 0;");
    Prison.feed(x, "abcde");
    int[] want = {3, 2, 77, 3, 5, 1};
    for (int what = 0; what < 6; what++) due("29: count(" + what + ")", x.count(what), want[what]);
    for (int bad : new int[] {6, -1, MIN, MAX}) due("29: count(" + bad + ")", x.count(bad), -2);
  }
}
