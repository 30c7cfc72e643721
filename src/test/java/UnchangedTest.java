import java.util.List;

/**
 * Every call that is refused, with its answer, and every call that only asks: nothing is changed by them. What can be
 * told of a prison behind such a call has to be what is told of one made alike, without it.
 */
public final class UnchangedTest {
  private static final Checks CHECKS = new Checks();
  private static final int MIN = Integer.MIN_VALUE, MAX = Integer.MAX_VALUE;
  private static final long NO = -4611686018427387904L;

  interface Call { long on(WallsOfPrisoners x); }

  interface Making { WallsOfPrisoners made(); }

  public static void main(String[] args) {
    CHECKS.holds("all is told alike of two made alike", Whole.told(Whole.made()).equals(Whole.told(Whole.made())));
    men();
    texts();
    standing();
    hours();
    best();
    toldHolds();
    images();
    sheets();
    copies();
    chains();
    takings();
    full();
    asked();
    CHECKS.end("UnchangedTest");
  }

  private static void unchanged(String call, Making making, Call refused, long due) {
    WallsOfPrisoners x = making.made();
    List<Long> ahead = Whole.told(making.made());
    CHECKS.due(call, refused.on(x), due);
    CHECKS.holds(call + " changes nothing", Whole.told(x).equals(ahead));
  }

  private static void refused(String call, Call refused, long due) { unchanged(call, Whole::made, refused, due); }

  private static int[] outside(int first, int last) { return new int[] {MIN, first - 1, last + 1, MAX}; }

  private static void men() {
    int[] last = {999, 99, 9, 99};
    for (int what : outside(0, 3)) refused("2: set, what " + what, x -> x.set(what, 0, 1), -2);
    for (int what = 0; what < 4; what++) {
      int w = what;
      for (int v : outside(0, last[w])) refused("2: set(" + w + ", 0, " + v + ")", x -> x.set(w, 0, v), -2);
      for (int of : outside(0, 4)) if (w > 1) refused("2: set(" + w + ", " + of + ")", x -> x.set(w, of, 1), -2);
    }
    for (int kind : outside(0, 5)) refused("3: man, kind " + kind, x -> x.man(kind, 1, 1), -2);
    for (int number : outside(0, 9)) refused("3: man, number " + number, x -> x.man(1, number, 1), -2);
    for (int strength : outside(0, 99)) refused("3: man, strength " + strength, x -> x.man(1, 1, strength), -2);
    for (int what : outside(0, 8)) refused("4: told, what " + what, x -> x.told(0, what), -1000);
    for (int what = 2; what < 9; what++) {
      int w = what;
      for (int of : outside(0, what < 7 ? 4 : 3)) refused("4: told(" + of + ", " + w + ")", x -> x.told(of, w), -1000);
    }
    for (int one : outside(0, 4)) {
      refused("5: grips(" + one + ", 0)", x -> x.grips(one, 0), -2);
      refused("5: grips(0, " + one + ")", x -> x.grips(0, one), -2);
      refused("5: grips of none such twice, " + one, x -> x.grips(one, one), -2);
      refused("6: hands of " + one, x -> x.hands(one, 1), -2);
    }
    for (int one = 0; one < 5; one++) {
      int same = one;
      refused("5: grips of one and the same", x -> x.grips(same, same), -2);
    }
    for (int come : outside(0, 99)) refused("6: hands(0, " + come + ")", x -> x.hands(0, come), -2);
  }

  private static WallsOfPrisoners withFullTape() {
    WallsOfPrisoners x = new WallsOfPrisoners();
    Prison.feed(x, "grips 7;hands 8;tires 9;" + " ".repeat(136));
    return x;
  }

  private static WallsOfPrisoners withAllTexts() {
    WallsOfPrisoners x = new WallsOfPrisoners();
    for (int i = 1; i < 6; i++) Prison.text(x, "grips " + i + ";hands 1;tires 1;");
    x.man(0, 0, 9);
    return x;
  }

  private static WallsOfPrisoners withAllTextsAnd(String tape) {
    WallsOfPrisoners x = withAllTexts();
    Prison.feed(x, tape);
    return x;
  }

  private static void texts() {
    for (int letter : outside(0, 255)) {
      refused("7: feed(" + letter + ")", x -> x.feed(letter), -2);
      unchanged("7: BAD ahead of FULL, feed(" + letter + ")", UnchangedTest::withFullTape, x -> x.feed(letter), -2);
    }
    for (int letter : new int[] {0, ';', 255}) unchanged("7: FULL", UnchangedTest::withFullTape, x -> x.feed(letter), -4);
    for (String tape : new String[] {"", "#", "grips", "grips 6;hands 6;tires 6", "grips 6;hands 6;tires 6;"}) {
      unchanged("8: FULL with '" + tape + "'", () -> withAllTextsAnd(tape), x -> x.text(), -4);
    }
    for (int text : outside(0, 1)) refused("9: force(" + text + ")", x -> x.force(text), -2);
    for (int text : outside(0, 5)) unchanged("9: force(" + text + ") of six", UnchangedTest::withAllTexts, x -> x.force(text), -2);
  }

  private static void standing() {
    for (int one : outside(0, 4)) {
      refused("10: out(" + one + ")", x -> x.out(one), -2);
      refused("11: into(" + one + ", 0)", x -> x.into(one, 0), -2);
      refused("12: swap(" + one + ", 0)", x -> x.swap(one, 0), -2);
      refused("12: swap(0, " + one + ")", x -> x.swap(0, one), -2);
      refused("12: swap of none such twice, " + one, x -> x.swap(one, one), -2);
      refused("15: sneeze of " + one, x -> x.sneeze(one, 1, 0), -2);
    }
    refused("10: STATE, it is OUT", x -> x.out(2), -3);
    for (int place : outside(0, 4)) {
      refused("11: into(2, " + place + ")", x -> x.into(2, place), -2);
      refused("11: BAD ahead of STATE, into(0, " + place + ")", x -> x.into(0, place), -2);
    }
    for (int place = 0; place < 5; place++) {
      int p = place;
      refused("11: STATE, it isn't OUT, PLACE " + p, x -> x.into(0, p), -3);
    }
    refused("12: one and the same", x -> x.swap(1, 1), -2);
    refused("12: one is OUT", x -> x.swap(2, 1), -2);
    refused("12: the other one is OUT", x -> x.swap(1, 2), -2);
    refused("12: one and the same, OUT", x -> x.swap(2, 2), -2);
    for (int what : outside(0, 3)) refused("14: wall(" + what + ")", x -> x.wall(what), -2);
    refused("15: sneeze of one who is OUT", x -> x.sneeze(2, 1, 0), -2);
    for (int hard : outside(0, 99)) refused("15: sneeze(0, " + hard + ")", x -> x.sneeze(0, hard, 0), -2);
    for (int what : outside(0, 2)) refused("15: sneeze, what " + what, x -> x.sneeze(0, 1, what), -2);
  }

  private static WallsOfPrisoners inTheLastHour() {
    WallsOfPrisoners x = Whole.made();
    x.set(0, 0, 999);
    return x;
  }

  private static void hours() {
    unchanged("13: STATE, HOUR is 999", UnchangedTest::inTheLastHour, x -> x.hour(), -3);
    for (int n : outside(0, 40)) {
      refused("16: run(" + n + ", 0)", x -> x.run(n, 0), -1000);
      refused("16: run(" + n + ", 1)", x -> x.run(n, 1), -1000);
      refused("16: run(" + n + ", 10)", x -> x.run(n, 10), -1000);
    }
    for (int what : new int[] {MIN, -1, 2, 3, 9, 15, 16, MAX, MIN + 9, MIN + 10}) {
      refused("16: run(1, " + what + ")", x -> x.run(1, what), -1000);
    }
  }

  private static void best() {
    for (int what : outside(0, 1)) {
      refused("18: order(" + what + ")", x -> x.order(what), -2);
      refused("19: let(" + what + ")", x -> x.let(what), -2);
      refused("20: letsIn(2, " + what + ")", x -> x.letsIn(2, what), -2);
      refused("20: BAD ahead of STATE, letsIn(0, " + what + ")", x -> x.letsIn(0, what), -2);
      refused("22: mean(" + what + ")", x -> x.mean(what), NO);
    }
    for (int one : outside(0, 4)) {
      refused("20: letsIn(" + one + ", 0)", x -> x.letsIn(one, 0), -2);
      refused("20: letsIn(" + one + ", 1)", x -> x.letsIn(one, 1), -2);
    }
    refused("20: STATE, it isn't OUT", x -> x.letsIn(0, 0), -3);
    refused("20: STATE, it isn't OUT, how hard", x -> x.letsIn(4, 1), -3);
  }

  private static void toldHolds() {
    for (int sheet : outside(0, 3)) {
      refused("23: tells of SHEET " + sheet, x -> x.tells(sheet, 0, 0), -2);
      refused("24: film(" + sheet + ")", x -> x.film(sheet), -2);
    }
    for (int one : outside(0, 4)) {
      refused("23: tells of one, " + one, x -> x.tells(0, one, 1), -2);
      refused("23: BAD ahead of -11, one " + one, x -> x.tells(3, one, 1), -2);
    }
    for (int what : outside(0, 7)) {
      refused("23: tells, what " + what, x -> x.tells(0, 0, what), -2);
      refused("23: BAD ahead of -11, what " + what, x -> x.tells(3, 0, what), -2);
    }
    for (int what = 0; what < 8; what++) {
      int w = what;
      refused("23: missing, what " + w, x -> x.tells(3, 0, w), -11);
      refused("23: it tells seven, what " + w, x -> x.tells(1, 0, w), -2);
    }
    for (int n : outside(0, 40)) refused("25: drawn(1, " + n + ")", x -> x.drawn(1, n), -2);
    for (int m : outside(1, 40)) refused("26: chance, m " + m, x -> x.chance(1, m, 1, 0), NO);
    for (int k : outside(0, 99)) refused("26: chance, k " + k, x -> x.chance(1, 1, k, 0), NO);
    for (int part : outside(0, 1)) refused("26: chance, part " + part, x -> x.chance(1, 1, 1, part), NO);
    for (int what : outside(0, 5)) refused("29: count(" + what + ")", x -> x.count(what), -2);
  }

  private static WallsOfPrisoners without() {
    WallsOfPrisoners x = Prison.of(5, 6, 7);
    x.out(1);
    return x;
  }

  private static void images() {
    unchanged("28: STATE, there is none", UnchangedTest::without, x -> x.back(), -3);
    unchanged("28: STATE, nobody is there", WallsOfPrisoners::new, x -> x.back(), -3);
    unchanged("22: nobody stands there", WallsOfPrisoners::new, x -> x.mean(0), NO);
  }

  private static void sheets() {
    for (int sheet : outside(0, 3)) {
      refused("30: sheet(" + sheet + ")", x -> x.sheet(sheet, 0, 1), -2);
      refused("30: sheet(" + sheet + "), missing", x -> x.sheet(sheet, -1, 1), -2);
      refused("30: BAD ahead of -14, sheet(" + sheet + ")", x -> x.sheet(sheet, 0, -1), -2);
      refused("31: cell of SHEET " + sheet, x -> x.cell(sheet, 0, 1), -2);
      refused("31: BAD ahead of -12, SHEET " + sheet, x -> x.cell(sheet, -1, 1), -2);
    }
    for (int sort : outside(-1, 2)) {
      refused("30: sheet, sort " + sort, x -> x.sheet(0, sort, 1), -2);
      refused("30: BAD ahead of -14, sort " + sort, x -> x.sheet(0, sort, -1), -2);
    }
    for (int sort = 0; sort < 3; sort++) {
      int s = sort;
      for (int n : new int[] {41, 42, MAX}) refused("30: n " + n + " of sort " + s, x -> x.sheet(0, s, n), -2);
      for (int n : new int[] {-1, -2, MIN}) refused("30: n " + n + " of sort " + s, x -> x.sheet(0, s, n), -14);
    }
    int[] sizes = {6, 7, 5};
    for (int sheet = 0; sheet < 3; sheet++) {
      int s = sheet;
      for (int i : outside(0, sizes[s] - 1)) refused("31: cell(" + s + ", " + i + ")", x -> x.cell(s, i, 1), -12);
    }
    for (int i : new int[] {0, -1, 40, MAX, MIN}) refused("31: missing, item " + i, x -> x.cell(3, i, 1), -11);
  }

  private static void copyRefused(String why, int sheet, int i, int other, int j, int n, int due) {
    String call = "32: " + why + ", copy(" + sheet + ", " + i + ", " + other + ", " + j + ", " + n + ")";
    refused(call, x -> x.copy(sheet, i, other, j, n), due);
  }

  private static void copies() {
    for (int sheet : outside(0, 3)) {
      copyRefused("no such SHEET", sheet, 0, 0, 0, 1, -2);
      copyRefused("no such other SHEET", 0, 0, sheet, 0, 1, -2);
      copyRefused("BAD ahead of -11", sheet, 0, 3, 0, 1, -2);
      copyRefused("BAD ahead of -11", 3, 0, sheet, 0, 1, -2);
      copyRefused("BAD ahead of -12", sheet, 0, 0, 0, -1, -2);
    }
    copyRefused("missing", 3, 0, 0, 0, 1, -11);
    copyRefused("the other one is missing", 0, 0, 3, 0, 1, -11);
    copyRefused("both are missing", 3, 0, 3, 0, 0, -11);
    copyRefused("-11 ahead of -12", 3, -1, 1, -1, -1, -11);
    copyRefused("-11 ahead of -12", 1, 0, 3, 0, 41, -11);
    for (int sheet = 0; sheet < 3; sheet++) {
      copyRefused("of unlike sorts", sheet, 0, (sheet + 1) % 3, 0, 1, -13);
      copyRefused("of unlike sorts, none asked", sheet, 0, (sheet + 2) % 3, 0, 0, -13);
      copyRefused("-13 ahead of -12", sheet, -1, (sheet + 1) % 3, 0, 1, -13);
      copyRefused("-13 ahead of -12, n", sheet, 0, (sheet + 1) % 3, 0, -1, -13);
    }
    int[][] places = {{-1, 0, 1}, {0, -1, 1}, {0, 0, -1}, {0, 0, 7}, {0, 1, 6}, {1, 0, 6}, {6, 0, 1}, {0, 6, 1}, {7, 0, 0}, {0, 7, 0},
        {-1, 0, 0}, {0, -1, 0}, {MAX, 0, 1}, {0, MAX, 1}, {0, 0, MAX}, {1, 1, MAX}, {MAX, MAX, MAX}, {MIN, 0, 1}, {0, MIN, 1},
        {0, 0, MIN}, {6, 6, -1}, {3, 0, 4}, {0, 3, 4}, {MAX, 0, 0}, {1, 0, MIN}};
    for (int[] p : places) copyRefused("a place outside", 0, p[0], 0, p[1], p[2], -12);
  }

  private static void chainRefused(String why, int sheet, int sort, int from, int n, int due) {
    refused("33: " + why + ", chain(" + sheet + ", " + sort + ", " + from + ", " + n + ")", x -> x.chain(sheet, sort, from, n), due);
  }

  private static void chains() {
    for (int sheet : outside(0, 3)) chainRefused("no such SHEET", sheet, 0, 0, 1, -2);
    for (int sort : outside(0, 2)) {
      chainRefused("no such sort", 0, sort, 0, 1, -2);
      chainRefused("BAD ahead of -11", 3, sort, 0, 1, -2);
    }
    for (int n : outside(0, 6)) {
      chainRefused("n", 0, 0, 0, n, -2);
      chainRefused("BAD ahead of -13", 0, 1, 0, n, -2);
      chainRefused("BAD ahead of -11", 3, 0, 0, n, -2);
      chainRefused("BAD ahead of -12", 0, 0, -1, n, -2);
    }
    for (int sheet = 0; sheet < 3; sheet++) {
      chainRefused("of another sort", sheet, (sheet + 1) % 3, 0, 1, -13);
      chainRefused("of another sort, none asked", sheet, (sheet + 2) % 3, 0, 0, -13);
      chainRefused("-13 ahead of -12", sheet, (sheet + 1) % 3, -1, 1, -13);
      chainRefused("missing", 3, sheet, 0, 1, -11);
      chainRefused("-11 ahead of -12", 3, sheet, -1, 1, -11);
    }
    for (int from : new int[] {-1, -3, MIN, 4, 5, 6, 40, MAX, MAX - 1, MAX - 2}) chainRefused("a place outside", 0, 0, from, 1, -12);
  }

  private static void takings() {
    for (int k : outside(0, 5)) {
      refused("34: taken(0, " + k + ")", x -> x.taken(0, k), -2);
      refused("34: BAD ahead of -11, taken(5, " + k + ")", x -> x.taken(5, k), -2);
    }
    for (int one : outside(0, 4)) refused("34: taken(" + one + ", 0)", x -> x.taken(one, 0), -11);
    refused("34: of another KIND", x -> x.taken(0, 2), -13);
  }

  private static WallsOfPrisoners withSix() {
    WallsOfPrisoners x = Whole.made();
    x.man(0, 0, 45);
    return x;
  }

  private static void full() {
    unchanged("3: FULL", UnchangedTest::withSix, x -> x.man(0, 0, 0), -4);
    unchanged("3: BAD ahead of FULL, kind", UnchangedTest::withSix, x -> x.man(6, 0, 0), -2);
    unchanged("3: BAD ahead of FULL, number", UnchangedTest::withSix, x -> x.man(0, 10, 0), -2);
    unchanged("3: BAD ahead of FULL, strength", UnchangedTest::withSix, x -> x.man(0, 0, -1), -2);
    unchanged("33: others are left out, all of them", UnchangedTest::withSix, x -> x.chain(0, 0, 0, 2), 0);
  }

  private static void asks(String call, Call asked) {
    WallsOfPrisoners x = Whole.made();
    long first = asked.on(x);
    CHECKS.due(call + " asked again", asked.on(x), first);
    CHECKS.holds(call + " changes nothing", Whole.told(x).equals(Whole.told(Whole.made())));
  }

  private static void asked() {
    for (int what = 0; what < 8; what++) {
      int w = what;
      asks("4: told(1, " + w + ")", x -> x.told(1, w));
      asks("23: tells(0, 1, " + w + ")", x -> x.tells(0, 1, w));
      asks("23: tells(2, 2, " + w + ")", x -> x.tells(2, 2, w));
      asks("29: count(" + w % 6 + ")", x -> x.count(w % 6));
    }
    for (int what = 0; what < 4; what++) {
      int w = what;
      asks("14: wall(" + w + ")", x -> x.wall(w));
      asks("15: sneeze, " + w % 3, x -> x.sneeze(1, 99, w % 3));
      asks("16: run(40, " + w % 2 + ")", x -> x.run(40, w % 2));
      asks("16: run(40, 10 + " + w + ")", x -> x.run(40, 10 + w));
      asks("18: order(" + w % 2 + ")", x -> x.order(w % 2));
      asks("19: let(" + w % 2 + ")", x -> x.let(w % 2));
      asks("20: letsIn(2, " + w % 2 + ")", x -> x.letsIn(2, w % 2));
      asks("22: mean(" + w % 2 + ")", x -> x.mean(w % 2));
      asks("25: drawn(5, " + w + ")", x -> x.drawn(5, w));
      asks("26: chance, " + w % 2, x -> x.chance(3, 40, 40, w % 2));
      asks("34: taken(1, " + w + ")", x -> x.taken(1, w));
    }
    asks("5: grips", x -> x.grips(0, 2));
    asks("6: hands", x -> x.hands(2, 9));
    asks("17: opens()", x -> x.opens());
    asks("21: swaps()", x -> x.swaps());
    asks("4: the HOLD", x -> x.told(1, 8));
  }
}
