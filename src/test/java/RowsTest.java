import java.util.Arrays;

/** TOLD, AN IMAGE and "3 SHEETS" at each bound: rows of each size and sort, all that is read back, all that is kept. */
public final class RowsTest {
  private static final Checks CHECKS = new Checks();
  private static final int MIN = Integer.MIN_VALUE, MAX = Integer.MAX_VALUE;

  private static void due(String call, long got, long want) { CHECKS.due(call, got, want); }

  public static void main(String[] args) {
    firstOtherwise();
    sixAtMost();
    anySortTells();
    kindsReadBack();
    numbersReadBack();
    strengthsReadBack();
    coldsReadBack();
    textsReadBack();
    allOrNothing();
    film();
    imageKeeps();
    imageOfMen();
    imageAnew();
    sheetAnew();
    cellsOfEachSort();
    copyOverlaps();
    copyEnds();
    chainOfSix();
    chainLeavesOut();
    chainEnds();
    CHECKS.end("RowsTest");
  }

  private static void tells(String of, WallsOfPrisoners x, int one, int... want) {
    for (int what = 0; what < 8; what++) due("23: " + of + ", what " + what, x.tells(0, one, what), want[what]);
  }

  private static void firstOtherwise() {
    int[] holds = {5, 5, 6, 7, 8, 9};
    for (int at = 0; at < 6; at++) {
      for (int more = -1; more < 2; more += 2) {
        WallsOfPrisoners x = Prison.of(9, 5, 6, 7, 8, 9);
        Prison.row(x, 0, 2, holds);
        due("23: none is otherwise", x.tells(0, 0, 0), -1);
        x.cell(0, at, holds[at] + more);
        due("23: " + at + " is otherwise", x.tells(0, 0, 0), at);
        x.cell(0, 5, 99);
        due("23: the first that is", x.tells(0, 0, 0), at);
      }
    }
    WallsOfPrisoners x = Prison.of(9, 5, 6, 7, 8, 9);
    for (int n = 0; n <= 6; n++) {
      Prison.row(x, 0, 1, Arrays.copyOf(holds, n));
      due("23: " + n + " are told, and so", x.tells(0, 5, 0), -1);
    }
    for (int n = 5; n >= 0; n--) {
      x.out(n);
      int there = n < 2 ? 0 : n;
      x.sheet(0, 0, 6);
      x.copy(1, 0, 0, 0, x.film(1));
      due("23: there are " + there + ", the first that there isn't", x.tells(0, 0, 0), there);
    }
  }

  private static void sixAtMost() {
    WallsOfPrisoners x = Prison.of(0, 0, 0, 0, 0, 0);
    x.sheet(0, 0, 6);
    due("23: six are told", x.tells(0, 0, 0), -1);
    for (int n : new int[] {7, 8, 39, 40}) {
      x.sheet(0, 0, n);
      for (int what = 0; what < 8; what++) due("23: " + n + " are told", x.tells(0, 0, what), -2);
    }
  }

  private static void anySortTells() {
    WallsOfPrisoners x = Prison.of(99, 99);
    for (int sort = 0; sort < 3; sort++) {
      Prison.row(x, 0, sort, 99, 99);
      due("23: of sort " + sort, x.tells(0, 0, 0), -1);
      Prison.row(x, 0, sort, 99, 99 + 256);
      due("23: 8 bits more, of sort " + sort, x.tells(0, 0, 0), sort == 0 ? -1 : 1);
      Prison.row(x, 0, sort, 99 + 65536, 99);
      due("23: 16 bits more, of sort " + sort, x.tells(0, 0, 0), sort == 2 ? 0 : -1);
      Prison.row(x, 0, sort, -1, 99);
      due("23: -1, of sort " + sort, x.tells(0, 0, 0), 0);
    }
  }

  /** A HOLD with a GIANT of 99, by which it is what the one asked of GRIPS. */
  private static WallsOfPrisoners withGiant(int kind, int number, int strength, int hold) {
    WallsOfPrisoners x = new WallsOfPrisoners();
    x.man(kind, number, strength);
    x.man(5, 0, 99);
    Prison.row(x, 0, 0, hold, hold);
    return x;
  }

  private static void kindsReadBack() {
    // MAN, BROTHER, TWIN grip 40, NEWCOMER 36, LONGER 36 and HOUR 6, GIANT 50
    int[] holds = {40, 36, 42, 50, 41};
    int[] kinds = {0b001011, 0b000100, 0b010000, 0b100000, 0};
    for (int i = 0; i < holds.length; i++) {
      for (int kind = 0; kind < 6; kind++) {
        WallsOfPrisoners x = withGiant(kind, 4, 50, holds[i]);
        x.set(0, 0, 6);
        x.set(1, 0, 10);
        due("23: KINDS by a HOLD of " + holds[i] + ", of KIND " + kind, x.tells(0, 0, 1), kinds[i]);
      }
    }
    WallsOfPrisoners twin = withGiant(0, 0, 50, 99);
    due("23: a TWIN alone holds 99", twin.tells(0, 0, 1), 0b001000);
    WallsOfPrisoners brother = new WallsOfPrisoners();
    brother.man(0, 4, 30);
    brother.man(1, 7, 20);
    Prison.row(brother, 0, 0, 40, 40);
    due("23: another one's grip by one's KIND", brother.tells(0, 0, 1), 0b001010);
  }

  private static void numbersReadBack() {
    for (int number = 0; number < 10; number++) {
      due("23: NUMBERS of a NEWCOMER, bit " + number, withGiant(2, 5, 50, 50 - number).tells(0, 0, 2), 1 << number);
    }
    due("23: NUMBERS, none", withGiant(2, 5, 50, 51).tells(0, 0, 2), 0);
    due("23: NUMBERS, none below", withGiant(2, 5, 50, 40).tells(0, 0, 2), 0);
    due("23: NUMBERS, any", withGiant(0, 5, 50, 50).tells(0, 0, 2), 1023);
    due("23: NUMBERS of a TWIN, all but like ones", withGiant(3, 0, 50, 50).tells(0, 0, 2), 1022);
    due("23: NUMBERS of a TWIN, like ones", withGiant(3, 5, 50, 99).tells(0, 0, 2), 1);
    WallsOfPrisoners of = withGiant(2, 0, 9, 0);
    due("23: NUMBERS up to 9", of.tells(0, 0, 2), 1 << 9);
  }

  private static void strengthsReadBack() {
    int[] holds = {0, 1, 98, 99};
    for (int hold : holds) {
      WallsOfPrisoners x = withGiant(0, 0, 50, hold);
      due("23: STRENGTHS by " + hold + ", how many", x.tells(0, 0, 3), 1);
      due("23: STRENGTHS by " + hold + ", the least", x.tells(0, 0, 4), hold);
    }
    WallsOfPrisoners giant = withGiant(0, 0, 50, 50);
    due("23: STRENGTHS of the harder one, how many", giant.tells(0, 1, 3), 50);
    due("23: STRENGTHS of the harder one, the least", giant.tells(0, 1, 4), 50);
    WallsOfPrisoners cold = withGiant(0, 0, 50, 0);
    cold.set(1, 0, 98);
    due("23: STRENGTHS in the cold, how many", cold.tells(0, 0, 3), 99);
    due("23: STRENGTHS in the cold, the least", cold.tells(0, 0, 4), 0);
    Prison.row(cold, 0, 0, 2, 2);
    due("23: STRENGTHS, none", cold.tells(0, 0, 3), 0);
    due("23: STRENGTHS, no least", cold.tells(0, 0, 4), -1);
    Prison.row(cold, 0, 0);
    due("23: STRENGTHS, all", cold.tells(0, 0, 3), 100);
    due("23: STRENGTHS, all, the least", cold.tells(0, 0, 4), 0);
  }

  private static void coldsReadBack() {
    int[] holds = {99, 98, 1};
    for (int hold : holds) {
      WallsOfPrisoners x = withGiant(0, 0, 99, hold);
      x.set(1, 0, 7);
      due("23: COLDS by " + hold + ", how many", x.tells(0, 0, 5), 1);
      due("23: COLDS by " + hold + ", the least", x.tells(0, 0, 6), 99 - hold);
    }
    WallsOfPrisoners x = withGiant(0, 0, 99, 0);
    due("23: COLDS up to 99, how many", x.tells(0, 0, 5), 1);
    due("23: COLDS up to 99, the least", x.tells(0, 0, 6), 99);
    Prison.rule(x, "grips cold-2*(cold-20)*(20<cold);hands 0;tires 0;");
    Prison.row(x, 0, 0, 20, 20);
    due("23: COLDS, how many", x.tells(0, 0, 5), 1);
    Prison.row(x, 0, 0, 3, 3);
    due("23: COLDS, one on each side", x.tells(0, 0, 5), 2);
    due("23: COLDS, the least of two", x.tells(0, 0, 6), 3);
    Prison.row(x, 0, 0, 0, 0);
    due("23: COLDS, 0 and those from 40 on", x.tells(0, 0, 5), 61);
    due("23: COLDS, 0 is the least", x.tells(0, 0, 6), 0);
    Prison.row(x, 0, 0, 21, 21);
    due("23: COLDS, none", x.tells(0, 0, 5), 0);
    due("23: COLDS, no least", x.tells(0, 0, 6), -1);
  }

  private static void textsReadBack() {
    WallsOfPrisoners x = withGiant(0, 0, 50, 50);
    due("23: TEXTS, TEXT 0 alone", x.tells(0, 0, 7), 1);
    for (int i = 1; i < 6; i++) {
      Prison.text(x, "grips " + (i % 2 == 0 ? 50 : 49 - i) + ";hands 0;tires 0;");
      due("23: TEXTS, as many as there are, " + i, x.tells(0, 0, 7), 0b010101 & (2 << i) - 1);
    }
    Prison.row(x, 0, 0, 44, 44);
    due("23: TEXTS, TEXT 5", x.tells(0, 1, 7), 0b100000);
    x.force(3);
    due("23: TEXTS, though another one is THE RULE", x.tells(0, 1, 7), 0b100000);
    due("23: but it is not so by that one", x.tells(0, 1, 0), 0);
    Prison.row(x, 0, 0, 43, 43);
    due("23: TEXTS, none", x.tells(0, 1, 7), 0);
  }

  private static void allOrNothing() {
    WallsOfPrisoners x = Prison.of(30, 40, 50);
    x.out(2);
    x.sheet(0, 2, 0);
    tells("nothing is told", x, 2, -1, 63, 1023, 100, 0, 100, 0, 1);
    Prison.row(x, 0, 2, 30, 30);
    tells("one who is OUT", x, 2, -1, 63, 1023, 100, 0, 1, 0, 1);
    Prison.row(x, 0, 2, 30, 30, 30);
    tells("there isn't a third", x, 2, 2, 0, 0, 0, -1, 0, -1, 0);
    Prison.row(x, 0, 2, 30, 31);
    tells("two that are alike are told otherwise", x, 0, 1, 0, 0, 0, -1, 0, -1, 0);
    Prison.row(x, 0, 2, MIN, MAX);
    tells("no HOLD is such", x, 0, 0, 0, 0, 0, -1, 0, -1, 0);
  }

  private static void film() {
    for (int n = 0; n <= 6; n++) {
      WallsOfPrisoners x = new WallsOfPrisoners();
      for (int i = 0; i < n; i++) x.man(0, 0, 99 - i);
      int there = n < 2 ? 0 : n;
      x.sheet(n % 4, 2, 40);
      due("24: of " + n, x.film(n % 4), there);
      due("24: of " + n + ", no item more", x.cell(n % 4, there, 0), -12);
      due("24: of " + n + ", bytes", x.chain(n % 4, 0, 0, 0), 0);
      due("24: of " + n + ", no ints", x.chain(n % 4, 2, 0, 0), -13);
      if (n > 0) due("24: of " + n + ", as they are", x.tells(n % 4, 0, 0), -1);
      if (there > 0) due("24: of " + n + ", the last item", x.cell(n % 4, there - 1, 0), 1);
      if (there > 0) due("24: of " + n + ", the last item was told", x.tells(n % 4, 0, 0), there - 1);
      for (int one = 0; one < n; one++) x.set(3, one, 0);
      due("24: of " + n + ", GATES", x.film(n % 4), there);
      if (n > 0) due("24: of " + n + ", GATES as they are", x.tells(n % 4, 0, 0), -1);
    }
  }

  private static WallsOfPrisoners kept() {
    WallsOfPrisoners x = Prison.of(10, 20, 30);
    Prison.text(x, "grips 1;hands 0;tires 0;");
    x.set(0, 0, 5);
    x.set(1, 0, 6);
    x.set(2, 1, 7);
    x.out(0);
    due("27: how many MEN", x.image(), 3);
    return x;
  }

  private static void imageKeeps() {
    WallsOfPrisoners x = kept();
    x.into(0, 2);
    x.swap(1, 2);
    due("28: THE RING, ahead", Prison.ring(x), 321);
    x.back();
    due("28: THE RING", Prison.ring(x), 23);
    x.set(0, 0, 8);
    x.back();
    due("28: HOUR", x.told(0, 0), 5);
    x.set(1, 0, 8);
    x.back();
    due("28: COLD", x.told(0, 1), 6);
    x.set(2, 1, 8);
    x.back();
    due("28: NUMBERS", x.told(1, 2), 7);
    x.set(3, 0, 8);
    x.back();
    due("28: STRENGTHS, of one who is OUT", x.told(0, 3), 10);
    x.force(1);
    x.back();
    due("28: THE RULE", x.count(5), 0);
    x.hour();
    due("28: how many MEN", x.back(), 3);
    due("28: HOUR, behind an HOUR", x.told(0, 0), 5);
    due("28: STRENGTH, behind an HOUR", x.told(1, 3), 20);
    Prison.text(x, "grips 2;hands 0;tires 0;");
    Prison.feed(x, "ab");
    Prison.row(x, 1, 1, 4, 5);
    x.back();
    due("28: TEXTS stay", x.count(3), 3);
    due("28: THE TAPE stays", x.count(4), 2);
    due("28: SHEETS stay", x.cell(1, 1, 5), 1);
    due("28: a TEXT that came since can be THE RULE", x.force(2), 0);
    x.image();
    x.force(0);
    x.back();
    due("28: and is kept so", x.count(5), 2);
  }

  private static void imageOfMen() {
    WallsOfPrisoners x = kept();
    x.man(1, 3, 40);
    x.man(2, 4, 50);
    x.swap(4, 1);
    x.out(3);
    due("28: how many MEN", x.back(), 3);
    due("28: MEN that came since go", x.count(0), 3);
    due("28: from THE RING, too", Prison.ring(x), 23);
    due("28: none such", x.told(3, 5), -1000);
    due("28: no grip to one who went", x.grips(0, 3), -2);
    due("3: the next one is numbered behind those who stayed", x.man(5, 6, 60), 3);
    due("3: and is as told", x.told(3, 4) * 1000 + x.told(3, 2) * 100 + x.told(3, 3), 5660);
    due("3: and stands last", Prison.ring(x), 234);
    for (int i = 0; i < 3; i++) {
      x.back();
      for (int one = 3; one < 6; one++) due("3: there is room again", x.man(0, 0, 0), one);
      due("3: FULL", x.man(0, 0, 0), -4);
    }
  }

  private static void imageAnew() {
    WallsOfPrisoners x = new WallsOfPrisoners();
    due("28: there is none", x.back(), -3);
    due("27: of nobody", x.image(), 0);
    for (int one = 0; one < 6; one++) {
      x.man(0, 0, one);
      due("27: of " + (one + 1), x.image(), one + 1);
    }
    x.out(0);
    due("28: the last one that is kept", x.back(), 6);
    due("28: all stand there", Prison.ring(x), 123456);
    due("28: it is kept still", x.back(), 6);
    WallsOfPrisoners nobody = new WallsOfPrisoners();
    nobody.image();
    nobody.man(0, 0, 9);
    due("28: nobody", nobody.back(), 0);
    due("28: nobody stands there", nobody.count(0) + nobody.count(1), 0);
    due("28: nobody, again", nobody.back(), 0);
    due("3: numbered from 0", nobody.man(4, 5, 6), 0);
  }

  /** How one comes by the three items of a SHEET from one on: KIND, NUMBER, STRENGTH as digits. */
  private static int comes(WallsOfPrisoners x, int sheet, int sort, int from) {
    x.image();
    int came = x.chain(sheet, sort, from, 1);
    int one = x.count(0) - 1;
    int how = came == 1 ? x.told(one, 4) * 1000 + x.told(one, 2) * 100 + x.told(one, 3) : came - 1;
    x.back();
    return how;
  }

  private static void sheetAnew() {
    for (int sort = 0; sort < 3; sort++) {
      WallsOfPrisoners x = new WallsOfPrisoners();
      Prison.row(x, 2, sort, 1, 2, 3, 4, 5, 6);
      due("30: as they are", comes(x, 2, sort, 3), 4506);
      x.sheet(2, sort, 6);
      due("30: all 0", comes(x, 2, sort, 0) + comes(x, 2, sort, 3), 0);
      Prison.row(x, 2, sort, 1, 2, 3, 4, 5, 6);
      x.sheet(2, sort, 3);
      x.sheet(2, sort, 6);
      due("30: smaller, then greater, all 0", comes(x, 2, sort, 0) + comes(x, 2, sort, 3), 0);
      Prison.row(x, 2, sort, 1, 2, 3);
      x.sheet(2, -1, 0);
      due("30: missing", x.cell(2, 0, 0), -11);
      x.sheet(2, sort, 3);
      due("30: missing, then all 0", comes(x, 2, sort, 0), 0);
      x.sheet(2, (sort + 1) % 3, 3);
      due("30: of another sort now", x.chain(2, sort, 0, 1), -13);
      due("30: other SHEETS are missing still", x.cell(1, 0, 0) + x.cell(3, 0, 0), -22);
    }
  }

  private static void cellsOfEachSort() {
    int[][] cells = {{0, 0, 0, 0}, {99, 99, 99, 99}, {127, -1, -1, -1}, {128, -1, -1, -1}, {-1, -1, -1, -1}, {255, -1, -1, -1},
        {256, 0, -1, -1}, {257, 1, -1, -1}, {-256, 0, -1, -1}, {-255, 1, -1, -1}, {65535, -1, -1, -1}, {65536, 0, 0, -1},
        {65537, 1, 1, -1}, {-65536, 0, 0, -1}, {-65535, 1, 1, -1}, {65536 + 256, 0, -1, -1}, {MIN, 0, 0, -1}, {MIN + 5, 5, 5, -1},
        {MAX, -1, -1, -1}, {MAX - 255, 0, -1, -1}, {MAX - 65535, 0, 0, -1}, {100, -1, -1, -1}, {32768, 0, -1, -1}};
    for (int[] cell : cells) {
      for (int sort = 0; sort < 3; sort++) {
        WallsOfPrisoners x = new WallsOfPrisoners();
        x.sheet(0, sort, 3);
        due("31: 1, whatever it becomes", x.cell(0, 2, cell[0]), 1);
        due("31: " + cell[0] + " of sort " + sort, comes(x, 0, sort, 0), cell[1 + sort]);
        x.copy(0, 0, 0, 0, 3);
        due("32: as it was, " + cell[0] + " of sort " + sort, comes(x, 0, sort, 0), cell[1 + sort]);
      }
    }
  }

  private static int[] items(WallsOfPrisoners x, int sheet, int sort, int n) {
    int[] items = new int[n];
    for (int i = 0; i < n; i++) {
      x.sheet(3, sort, 3);
      x.copy(sheet, i, 3, 1, 1);
      items[i] = comes(x, 3, sort, 0) / 100;
    }
    return items;
  }

  private static void copied(String how, int[] got, int... want) {
    for (int i = 0; i < want.length; i++) due("32: " + how + ", item " + i, got[i], want[i]);
  }

  private static void copyOverlaps() {
    for (int sort = 0; sort < 3; sort++) {
      WallsOfPrisoners x = new WallsOfPrisoners();
      Prison.row(x, 0, sort, 1, 2, 3, 4, 5, 6);
      due("32: on by 1", x.copy(0, 0, 0, 1, 5), 5);
      copied("on by 1, as they were", items(x, 0, sort, 6), 1, 1, 2, 3, 4, 5);
      due("32: on by 2", x.copy(0, 1, 0, 3, 3), 3);
      copied("on by 2, as they were", items(x, 0, sort, 6), 1, 1, 2, 1, 2, 3);
      Prison.row(x, 0, sort, 1, 2, 3, 4, 5, 6);
      due("32: back by 1", x.copy(0, 1, 0, 0, 5), 5);
      copied("back by 1, as they were", items(x, 0, sort, 6), 2, 3, 4, 5, 6, 6);
      due("32: onto themselves", x.copy(0, 0, 0, 0, 6), 6);
      copied("onto themselves", items(x, 0, sort, 6), 2, 3, 4, 5, 6, 6);
    }
  }

  private static void copyEnds() {
    for (int sort = 0; sort < 3; sort++) {
      WallsOfPrisoners x = new WallsOfPrisoners();
      Prison.row(x, 0, sort, 1, 2, 3, 4);
      Prison.row(x, 1, sort, 5, 6, 7);
      due("32: the last one onto the first", x.copy(0, 3, 1, 0, 1), 1);
      due("32: the first one onto the last", x.copy(0, 0, 1, 2, 1), 1);
      copied("the ends", items(x, 1, sort, 3), 4, 6, 1);
      copied("those that are copied stay", items(x, 0, sort, 4), 1, 2, 3, 4);
      due("32: as many as the lesser one has", x.copy(0, 1, 1, 0, 3), 3);
      copied("as many", items(x, 1, sort, 3), 2, 3, 4);
      due("32: one more has no room", x.copy(0, 0, 1, 0, 4), -12);
      due("32: one more isn't there", x.copy(1, 0, 0, 0, 4), -12);
      due("32: none, behind the last ones", x.copy(0, 4, 1, 3, 0), 0);
      due("32: none, further behind", x.copy(0, 5, 1, 3, 0), -12);
      due("32: none, further behind there", x.copy(0, 4, 1, 4, 0), -12);
      due("32: n below 0", x.copy(0, 4, 1, 3, -1), -12);
      copied("nothing is changed", items(x, 1, sort, 3), 2, 3, 4);
    }
  }

  private static void chainOfSix() {
    for (int sort = 0; sort < 3; sort++) {
      WallsOfPrisoners x = new WallsOfPrisoners();
      x.sheet(0, sort, 40);
      for (int one = 0; one < 6; one++) {
        x.cell(0, 22 + 3 * one, one);
        x.cell(0, 23 + 3 * one, 9 - one);
        x.cell(0, 24 + 3 * one, one == 0 ? 0 : 94 + one);
      }
      due("33: none", x.chain(0, sort, 22, 0), 0);
      due("33: nobody came", x.count(0), 0);
      due("33: six, up to the last item", x.chain(0, sort, 22, 6), 6);
      due("33: six stand there", Prison.ring(x), 123456);
      for (int one = 0; one < 6; one++) {
        due("33: KIND of " + one, x.told(one, 4), one);
        due("33: NUMBER of " + one, x.told(one, 2), 9 - one);
        due("33: STRENGTH of " + one, x.told(one, 3), one == 0 ? 0 : 94 + one);
      }
      due("33: seven are too many", x.chain(0, sort, 0, 7), -2);
    }
  }

  private static void chainLeavesOut() {
    int[][] bad = {{6, 0, 0}, {-1, 0, 0}, {0, 10, 0}, {0, -1, 0}, {0, 0, 100}, {0, 0, -1}};
    for (int[] b : bad) {
      WallsOfPrisoners x = new WallsOfPrisoners();
      Prison.row(x, 0, 1, 1, 2, 3, b[0], b[1], b[2], 5, 9, 99);
      due("33: others are left out", x.chain(0, 1, 0, 3), 2);
      due("33: how many MEN", x.count(0), 2);
      due("33: the one behind comes", x.told(1, 4) * 1000 + x.told(1, 2) * 100 + x.told(1, 3), 5999);
      due("33: nobody of one who is left out", x.chain(0, 1, 3, 1), 0);
    }
    WallsOfPrisoners x = Prison.of(1, 2, 3, 4, 5);
    Prison.row(x, 0, 2, 1, 1, 1, 2, 2, 2, 3, 3, 3);
    due("33: one has room", x.chain(0, 2, 0, 3), 1);
    due("33: the first of them", x.told(5, 4), 1);
    due("33: none has room", x.chain(0, 2, 0, 3), 0);
    due("33: six stay", x.count(0), 6);
    due("33: outside, though none has room", x.chain(0, 2, 0, 4), -12);
  }

  private static void chainEnds() {
    for (int size = 0; size < 3; size++) {
      WallsOfPrisoners x = new WallsOfPrisoners();
      x.sheet(0, 0, size);
      due("33: too few items for one, " + size, x.chain(0, 0, 0, 1), -12);
      for (int from : new int[] {MIN, -1, 0, size, 3, MAX}) due("33: none, from " + from, x.chain(0, 0, from, 0), 0);
      due("33: nobody came", x.count(0), 0);
    }
    WallsOfPrisoners x = new WallsOfPrisoners();
    x.sheet(0, 0, 7);
    due("33: just one", x.chain(0, 0, 4, 1), 1);
    due("33: one item too few", x.chain(0, 0, 5, 1), -12);
    due("33: ahead of the first item", x.chain(0, 0, -1, 1), -12);
    due("33: two, then outside", x.chain(0, 0, 1, 3), -12);
    due("33: what stood ahead came", x.count(0), 3);
    due("33: just two", x.chain(0, 0, 1, 2), 2);
    due("33: nobody came but those", x.count(0), 5);
    WallsOfPrisoners y = new WallsOfPrisoners();
    Prison.row(y, 0, 0, 9, 9, 9, 1, 2, 3, 4, 5);
    due("33: one is left out, one comes, then outside", y.chain(0, 0, 0, 3), -12);
    due("33: one came", y.count(0) * 10 + y.told(0, 4), 11);
  }
}
