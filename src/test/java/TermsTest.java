/**
 * The ranges that "Terms" names, for every call that takes such a number: the last one that is taken on each side.
 * (The first one that is refused, and that nothing is changed by it, stands in UnchangedTest.)
 */
public final class TermsTest {
  private static final Checks CHECKS = new Checks();
  private static final int MIN = Integer.MIN_VALUE, MAX = Integer.MAX_VALUE;
  private static final long NO = -4611686018427387904L;

  private static void due(String call, long got, long want) { CHECKS.due(call, got, want); }

  public static void main(String[] args) {
    hourAndCold();
    ofDoesNotMatter();
    numberAndStrength();
    kinds();
    sixMen();
    whoComesStandsLast();
    whoIsOutStandsNowhere();
    numbersThatAreTaken();
    sneezes();
    thoughts();
    seeds();
    sheets();
    sheetsAtFirst();
    refusalsAreTold();
    CHECKS.end("TermsTest");
  }

  private static void hourAndCold() {
    WallsOfPrisoners x = new WallsOfPrisoners();
    due("HOUR 0 at first", x.told(0, 0), 0);
    due("COLD 0 at first", x.told(0, 1), 0);
    due("HOUR 0 at first, as count() tells", x.count(2), 0);
    due("HOUR 0 is taken", x.set(0, 0, 0), 0);
    due("HOUR 999 is taken", x.set(0, 0, 999), 0);
    due("HOUR is 999", x.told(0, 0), 999);
    due("HOUR 1000 is refused", x.set(0, 0, 1000), -2);
    due("HOUR -1 is refused", x.set(0, 0, -1), -2);
    due("HOUR is 999 still", x.count(2), 999);
    due("HOUR becomes 0 again", x.set(0, 0, 0), 999);
    due("COLD 0 is taken", x.set(1, 0, 0), 0);
    due("COLD 99 is taken", x.set(1, 0, 99), 0);
    due("COLD 100 is refused", x.set(1, 0, 100), -2);
    due("COLD -1 is refused", x.set(1, 0, -1), -2);
    due("COLD is 99 still", x.told(0, 1), 99);
    due("HOUR is apart from COLD", x.told(0, 0), 0);
  }

  private static void ofDoesNotMatter() {
    WallsOfPrisoners x = new WallsOfPrisoners();
    for (int of : new int[] {MIN, -1, 0, 5, 6, MAX}) {
      x.set(0, 0, 8);
      x.set(1, 0, 9);
      due("2: HOUR, of " + of, x.set(0, of, 18), 8);
      due("2: COLD, of " + of, x.set(1, of, 19), 9);
      due("4: HOUR, of " + of, x.told(of, 0), 18);
      due("4: COLD, of " + of, x.told(of, 1), 19);
    }
  }

  private static void numberAndStrength() {
    WallsOfPrisoners x = new WallsOfPrisoners();
    due("NUMBER 0, STRENGTH 0", x.man(0, 0, 0), 0);
    due("NUMBER 9, STRENGTH 99", x.man(0, 9, 99), 1);
    due("NUMBER 10", x.man(0, 10, 99), -2);
    due("NUMBER -1", x.man(0, -1, 99), -2);
    due("STRENGTH 100", x.man(0, 9, 100), -2);
    due("STRENGTH -1", x.man(0, 9, -1), -2);
    due("NUMBER is 9", x.told(1, 2), 9);
    due("STRENGTH is 99", x.told(1, 3), 99);
    due("NUMBER is 0", x.told(0, 2), 0);
    due("STRENGTH is 0", x.told(0, 3), 0);
    due("NUMBER becomes 9", x.set(2, 0, 9), 0);
    due("NUMBER becomes 0", x.set(2, 0, 0), 9);
    due("STRENGTH becomes 99", x.set(3, 0, 99), 0);
    due("STRENGTH becomes 0", x.set(3, 0, 0), 99);
    due("of the last one of MEN", x.set(3, 1, 98), 99);
    due("of none behind the last one", x.set(3, 2, 98), -2);
  }

  private static void kinds() {
    int[] above = {-1, 0, 0, 1, 2, 0};
    for (int kind = 0; kind < 6; kind++) {
      WallsOfPrisoners x = new WallsOfPrisoners();
      due("KIND " + kind + " is taken", x.man(kind, 7, 0), 0);
      due("KIND " + kind + " is told", x.told(0, 4), kind);
      due("taken for one of its own KIND", x.taken(0, kind), 7);
      if (kind > 0) due("taken for one of the KIND above", x.taken(0, above[kind]), 7);
      if (kind > 0) due("one above is not one under it", asked(above[kind], kind), -13);
    }
    due("TWIN is MAN by BROTHER between", asked(3, 0), 7);
    due("LONGER is MAN by NEWCOMER between", asked(4, 0), 7);
    due("TWIN is no NEWCOMER", asked(3, 2), -13);
    due("LONGER is no BROTHER", asked(4, 1), -13);
    for (int k = 1; k < 5; k++) due("GIANT is no KIND " + k, asked(5, k), -13);
    due("BROTHER is no NEWCOMER", asked(1, 2), -13);
  }

  private static long asked(int kind, int k) {
    WallsOfPrisoners x = new WallsOfPrisoners();
    x.man(kind, 7, 0);
    return x.taken(0, k);
  }

  private static void sixMen() {
    WallsOfPrisoners x = new WallsOfPrisoners();
    for (int one = 0; one < 6; one++) {
      due("who doesn't come yet", x.told(one, 3), -1000);
      due("numbered from 0", x.man(0, one, 10 + one), one);
      due("MEN", x.count(0), one + 1);
      due("who stand there", x.count(1), one + 1);
    }
    due("6 at most", x.man(0, 0, 0), -4);
    due("6 still", x.count(0) * 10 + x.count(1), 66);
    for (int one = 0; one < 6; one++) due("each has its own", x.told(one, 2) * 100 + x.told(one, 3), one * 100 + 10 + one);
    x.out(5);
    due("6 at most, though one is OUT", x.man(0, 0, 0), -4);
  }

  private static void whoComesStandsLast() {
    WallsOfPrisoners x = Prison.of(1, 2, 3);
    x.swap(0, 2);
    x.man(0, 0, 4);
    due("one who comes stands last", Prison.ring(x), 3214);
    x.out(2);
    x.out(1);
    x.man(0, 0, 5);
    due("one who comes stands behind those who stand", Prison.ring(x), 145);
    due("its PLACE", x.told(4, 5), 2);
  }

  private static void whoIsOutStandsNowhere() {
    WallsOfPrisoners x = Prison.of(0, 20, 30, 40);
    due("ahead of it there are GATES", x.wall(1), 2);
    x.out(0);
    due("PLACE", x.told(0, 5), -1);
    for (int place = 0; place < 3; place++) due("who stands at PLACE " + place, x.told(place, 7), place + 1);
    due("no PLACE more", x.told(3, 7), -1000);
    due("no HOLD more", x.told(3, 8), -1000);
    due("WEAKEST without", x.wall(0), 20);
    due("GATES without", x.wall(1), 0);
    due("how many stand there", x.count(1), 3);
    due("MEN are as many", x.count(0), 4);
    due("no SNEEZE", x.sneeze(0, 1, 0), -2);
    due("no SNEEZE comes", x.sneeze(3, 1, 1), 1);
    due("MEAN without", x.mean(0), 30);
    due("ORDER without", x.order(0), 234);
    due("LET without", x.let(0), 1);
    x.hour();
    due("not SPENT", x.set(3, 0, 50), 0);
    x.hour();
    due("not SPENT again", x.told(0, 3), 50);
    due("what SPENT would be is told", x.told(0, 6), 1);
    due("but it GRIPS, both of MEN, anywhere", x.grips(0, 1), 50);
    due("and is gripped", x.grips(1, 0), 18);
    due("and HANDS ON what comes", x.hands(0, 9), 6);
    due("and is taken for a MAN", x.taken(0, 0), 0);
    due("and has its KIND", x.told(0, 4), 0);
    due("and has its STRENGTH in thought", x.run(3, 10), 50);
    due("and a NUMBER that becomes another one", x.set(2, 0, 9), 0);
    due("and is let OUT no more", x.out(0), -3);
  }

  /** The last numbers on each side that a call takes are answered as no refusal is. */
  private static void numbersThatAreTaken() {
    WallsOfPrisoners x = Prison.ofKinds(3, 50);
    for (int one : new int[] {0, 5}) {
      due("5: grips of " + one, x.grips(one, 5 - one), 50);
      due("6: hands 0 of " + one, x.hands(one, 0), one == 0 ? 0 : 7);
      due("6: hands 99 of " + one, x.hands(one, 99), one == 0 ? 96 : 99);
      due("34: taken " + one, x.taken(one, 0), 3);
      due("34: taken for KIND 5, " + one, x.taken(one, 5), one == 0 ? -13 : 3);
      due("7: who stands at PLACE " + one, x.told(one, 7), one);
      due("16: run, " + (10 + one), x.run(0, 10 + one), 50);
    }
    due("7: byte 0", x.feed(0), 1);
    due("7: byte 255", x.feed(255), 2);
    due("9: force(0)", x.force(0), 0);
    due("10: out(0)", x.out(0), 0);
    due("11: into(0, 0)", x.into(0, 0), 6);
    due("10: out(5)", x.out(5), 5);
    due("11: into(5, 5)", x.into(5, 5), 6);
    due("11: it stands last", x.told(5, 7), 5);
    due("12: swap(0, 5)", x.swap(0, 5), 47);
    due("12: swap(5, 0)", x.swap(5, 0), 47);
    due("4: the first HOLD", x.told(0, 8), 50);
    due("4: the last HOLD", x.told(5, 8), 50);
    due("4: SPENT", x.told(0, 6), 1);
    for (int what = 0; what < 4; what++) due("14: wall(" + what + ")", x.wall(what), new int[] {47, 0, -1, 6}[what]);
  }

  private static void sneezes() {
    WallsOfPrisoners x = Prison.of(1, 2);
    due("15: 0 is taken", x.sneeze(0, 0, 0), 0);
    due("15: 99 is taken", x.sneeze(0, 99, 0), 33);
    due("15: who, of 99", x.sneeze(0, 99, 1), 1);
    due("15: how hard, of 99", x.sneeze(0, 99, 2), 3);
    due("15: the last one of MEN", x.sneeze(1, 1, 1), 0);
  }

  private static void thoughts() {
    WallsOfPrisoners x = Prison.of(90, 80);
    due("16: 0 HOURS", x.run(0, 10), 90);
    due("16: 40 HOURS", x.run(40, 10), 50);
    due("16: 40 HOURS, WEAKEST", x.run(40, 0), 40);
    due("16: 40 HOURS, GATES", x.run(40, 1), 0);
    due("16: 41 HOURS", x.run(41, 10), -1000);
    due("25: 0 times", x.drawn(1, 0), 80);
    due("25: 40 times", x.drawn(1, 40), 80);
    due("26: m 1", x.chance(1, 1, 80, 1), 1);
    due("26: m 40", x.chance(1, 40, 80, 0) * 10 + x.chance(1, 40, 80, 1), 11);
    due("26: k 0", x.chance(1, 40, 0, 0), 1);
    due("26: k 99", x.chance(1, 40, 99, 0), 0);
    WallsOfPrisoners hard = Prison.of(99, 99);
    due("26: k 99 is reached", hard.chance(1, 40, 99, 0), 1);
    due("14: 99 is reached", hard.wall(0), 99);
  }

  private static void seeds() {
    WallsOfPrisoners x = Prison.of(7, 8, 9);
    for (int seed : new int[] {MIN, MIN + 1, -1, 0, 1, MAX - 1, MAX}) {
      due("25: any SEED, " + seed, x.drawn(seed, 40), 7);
      due("26: any SEED, " + seed, x.chance(seed, 40, 7, 0), 1);
    }
  }

  private static void sheets() {
    WallsOfPrisoners x = Prison.of(1);
    for (int sheet = 0; sheet < 4; sheet++) {
      for (int sort = 0; sort < 3; sort++) {
        due("30: n 40", x.sheet(sheet, sort, 40), 1);
        due("31: item 0", x.cell(sheet, 0, MIN), 1);
        due("31: item 39", x.cell(sheet, 39, MAX), 1);
        due("31: item 40", x.cell(sheet, 40, 1), -12);
        due("32: all 40", x.copy(sheet, 0, sheet, 0, 40), 40);
        due("32: 41", x.copy(sheet, 0, sheet, 0, 41), -12);
        due("30: n 0", x.sheet(sheet, sort, 0), 1);
        due("31: no item", x.cell(sheet, 0, 1), -12);
        due("32: none of none", x.copy(sheet, 0, sheet, 0, 0), 0);
        due("33: none of none", x.chain(sheet, sort, 0, 0), 0);
      }
      for (int n : new int[] {MIN, -1, 41, MAX, 0}) {
        due("30: missing, n " + n + " does not matter", x.sheet(sheet, -1, n), 1);
        due("30: it is missing", x.cell(sheet, 0, 1), -11);
      }
      due("24: film", x.film(sheet), 0);
      due("23: tells", x.tells(sheet, 0, 0), -1);
    }
  }

  private static void sheetsAtFirst() {
    for (int sheet = 0; sheet < 4; sheet++) {
      WallsOfPrisoners x = Prison.of(1, 2);
      due("31: missing at first", x.cell(sheet, 0, 1), -11);
      due("23: missing at first", x.tells(sheet, 0, 0), -11);
      for (int sort = 0; sort < 3; sort++) due("33: missing at first", x.chain(sheet, sort, 0, 0), -11);
      due("32: missing at first", x.copy(sheet, 0, sheet, 0, 0), -11);
    }
  }

  private static void refusalsAreTold() {
    due("NONE", WallsOfPrisoners.NONE, -1);
    due("BAD", WallsOfPrisoners.BAD, -2);
    due("STATE", WallsOfPrisoners.STATE, -3);
    due("FULL", WallsOfPrisoners.FULL, -4);
    due("NO", WallsOfPrisoners.NO, NO);
  }
}
