/** Promises 30 to 34: sheet, cell, copy, chain, taken. */
public final class HostTest {
  private static final Checks CHECKS = new Checks();
  private static final int MIN = Integer.MIN_VALUE, MAX = Integer.MAX_VALUE;

  private static void due(String call, long got, long want) { CHECKS.due(call, got, want); }

  public static void main(String[] args) {
    sheet();
    cell();
    cellsAreCut();
    copy();
    copyRefused();
    chain();
    chainOutside();
    chainRefused();
    taken();
    CHECKS.end("HostTest");
  }

  /**
   * Item i of a SHEET, for which there is no call: the STRENGTH of one who comes by it, or 0, if nobody can.
   * SHEET 3 is used for it; who came goes by AN IMAGE.
   */
  private static int item(WallsOfPrisoners x, int sheet, int sort, int i) {
    x.image();
    x.sheet(3, sort, 3);
    x.copy(sheet, i, 3, 2, 1);
    int came = x.chain(3, sort, 0, 1);
    int strength = came == 1 ? x.told(x.count(0) - 1, 3) : came;
    x.back();
    return strength;
  }

  private static void sheet() {
    WallsOfPrisoners x = new WallsOfPrisoners();
    for (int sort = 0; sort < 3; sort++) {
      due("30: sheet(" + sort + ", " + sort + ", 40)", x.sheet(sort, sort, 40), 1);
      due("30: the first item", x.cell(sort, 0, 5), 1);
      due("30: the last item", x.cell(sort, 39, 5), 1);
      due("30: no item more", x.cell(sort, 40, 5), -12);
      due("30: anew", x.sheet(sort, sort, 40), 1);
      due("30: all 0", item(x, sort, sort, 0) + item(x, sort, sort, 39), 0);
      due("30: no items", x.sheet(sort, sort, 0), 1);
      due("30: no item", x.cell(sort, 0, 5), -12);
    }
    for (int n : new int[] {0, 41, -1, MAX, MIN}) {
      x.sheet(1, 1, 4);
      due("30: missing, n does not matter", x.sheet(1, -1, n), 1);
      due("30: missing", x.cell(1, 0, 0), -11);
    }
    x.sheet(0, 2, 4);
    int[][] bad = {{4, 0, 1}, {-1, 0, 1}, {MAX, 0, 1}, {MIN, -1, 1}, {0, 3, 1}, {0, -2, 1}, {0, MAX, 1}, {0, MIN, 1}, {0, 0, 41}, {0, 2, MAX},
        {4, 0, -1}, {0, 3, -1}};
    for (int[] b : bad) due("30: sheet(" + b[0] + ", " + b[1] + ", " + b[2] + ")", x.sheet(b[0], b[1], b[2]), -2);
    due("30: a size below 0", x.sheet(0, 0, -1), -14);
    due("30: far below 0", x.sheet(0, 0, MIN), -14);
    due("30: a refusal changes nothing", x.cell(0, 3, 1) + x.chain(0, 2, 0, 0), 1);
  }

  private static void cell() {
    WallsOfPrisoners x = new WallsOfPrisoners();
    x.sheet(2, 1, 3);
    due("31: cell(2, 0, 7)", x.cell(2, 0, 7), 1);
    due("31: cell(2, 2, 9)", x.cell(2, 2, 9), 1);
    due("31: item 0", item(x, 2, 1, 0), 7);
    due("31: item 1", item(x, 2, 1, 1), 0);
    due("31: item 2", item(x, 2, 1, 2), 9);
    for (int bad : new int[] {4, -1, MIN, MAX}) due("31: no SHEET " + bad, x.cell(bad, 0, 0), -2);
    due("31: missing", x.cell(1, 0, 0), -11);
    due("31: missing, ahead of the place", x.cell(1, 99, 0), -11);
    for (int i : new int[] {3, -1, MIN, MAX}) due("31: no item " + i, x.cell(2, i, 0), -12);
  }

  private static void cellsAreCut() {
    WallsOfPrisoners x = new WallsOfPrisoners();
    int[][] want = {{256 + 44, 44, 0, 0}, {65536 + 45, 45, 45, 0}, {-256 + 46, 46, 0, 0}, {99, 99, 99, 99}, {-1, 0, 0, 0},
        {MIN + 47, 47, 47, 0}, {-65536 + 300, 44, 0, 0}};
    for (int[] w : want) {
      for (int sort = 0; sort < 3; sort++) {
        x.sheet(0, sort, 1);
        x.cell(0, 0, w[0]);
        due("31: " + w[0] + " of sort " + sort, item(x, 0, sort, 0), w[1 + sort]);
      }
    }
  }

  private static void copy() {
    WallsOfPrisoners x = new WallsOfPrisoners();
    Prison.row(x, 0, 1, 1, 2, 3, 4, 5);
    x.sheet(1, 1, 4);
    due("32: n", x.copy(0, 1, 1, 0, 3), 3);
    int[] want = {2, 3, 4, 0};
    for (int i = 0; i < 4; i++) due("32: item " + i, item(x, 1, 1, i), want[i]);
    due("32: onto itself, on", x.copy(0, 0, 0, 1, 4), 4);
    int[] on = {1, 1, 2, 3, 4};
    for (int i = 0; i < 5; i++) due("32: as they were, item " + i, item(x, 0, 1, i), on[i]);
    due("32: onto itself, back", x.copy(0, 2, 0, 1, 3), 3);
    int[] back = {1, 2, 3, 4, 4};
    for (int i = 0; i < 5; i++) due("32: as they were, item " + i, item(x, 0, 1, i), back[i]);
    due("32: none, at the ends", x.copy(0, 5, 1, 4, 0), 0);
    due("32: all", x.copy(0, 0, 0, 0, 5), 5);
  }

  private static void copyRefused() {
    WallsOfPrisoners x = new WallsOfPrisoners();
    x.sheet(0, 1, 5);
    x.sheet(1, 1, 4);
    x.sheet(2, 2, 4);
    int[][] sheets = {{4, 0}, {0, 4}, {-1, 0}, {0, MIN}, {MAX, 0}, {4, 3}, {3, 4}};
    for (int[] s : sheets) due("32: no such SHEET", x.copy(s[0], 0, s[1], 0, 1), -2);
    due("32: missing", x.copy(3, 0, 0, 0, 1), -11);
    due("32: the other is missing", x.copy(0, 0, 3, 0, 1), -11);
    due("32: both", x.copy(3, 9, 3, 9, -9), -11);
    due("32: none of a missing one", x.copy(3, 0, 0, 0, 0), -11);
    due("32: unlike sorts", x.copy(0, 0, 2, 0, 1), -13);
    due("32: unlike sorts, ahead of the place", x.copy(0, 9, 2, 0, -1), -13);
    int[][] places = {{0, 0, -1}, {-1, 0, 1}, {0, -1, 1}, {0, 0, 5}, {3, 0, 3}, {0, 2, 3}, {6, 0, 0}, {0, 5, 0}, {MAX, 0, 1}, {1, 0, MAX},
        {0, MAX, MAX}, {MIN, 0, 0}, {0, MIN, MIN}, {5, 4, 1}, {-1, 0, 0}};
    for (int[] p : places) due("32: copy(0, " + p[0] + ", 1, " + p[1] + ", " + p[2] + ")", x.copy(0, p[0], 1, p[1], p[2]), -12);
  }

  private static void chain() {
    WallsOfPrisoners x = Prison.of(50);
    Prison.row(x, 0, 0, 9, 5, 1, 33, 6, 0, 0, 0, 0, 100, 2, 10, 3, 3, 2, 20);
    due("33: from one on", x.chain(0, 0, 1, 5), 2);
    due("33: how many there are", x.count(0), 3);
    due("33: the first", x.told(1, 4) * 1000 + x.told(1, 2) * 100 + x.told(1, 3), 5133);
    due("33: others are left out", x.told(2, 4) * 1000 + x.told(2, 2) * 100 + x.told(2, 3), 3220);
    due("33: they stand there", Prison.ring(x), 123);
    due("33: none", x.chain(0, 0, 1, 0), 0);
    WallsOfPrisoners y = Prison.of(1, 2, 3, 4);
    y.sheet(1, 2, 18);
    due("33: as many as have room", y.chain(1, 2, 0, 6), 2);
    due("33: FULL", y.chain(1, 2, 0, 6), 0);
    WallsOfPrisoners z = new WallsOfPrisoners();
    z.sheet(2, 1, 18);
    due("33: six", z.chain(2, 1, 0, 6), 6);
  }

  private static void chainOutside() {
    WallsOfPrisoners x = new WallsOfPrisoners();
    x.sheet(0, 0, 8);
    due("33: a place outside", x.chain(0, 0, 0, 3), -12);
    due("33: what stood ahead came", x.count(0), 2);
    due("33: just to the end", x.chain(0, 0, 2, 2), 2);
    for (int from : new int[] {-1, 6, 8, 99, MIN, MAX, MAX - 1, -3}) due("33: from " + from, x.chain(0, 0, from, 1), -12);
    due("33: nobody came", x.count(0), 4);
    WallsOfPrisoners y = Prison.of(1, 2, 3, 4, 5, 6);
    y.sheet(0, 0, 3);
    due("33: outside, though FULL", y.chain(0, 0, 0, 2), -12);
  }

  private static void chainRefused() {
    WallsOfPrisoners x = new WallsOfPrisoners();
    x.sheet(0, 1, 6);
    int[][] bad = {{4, 1, 1}, {-1, 1, 1}, {MAX, 1, 1}, {0, 3, 1}, {0, -1, 1}, {0, MIN, 1}, {0, 1, 7}, {0, 1, -1}, {0, 1, MAX}, {2, -1, 1}};
    for (int[] b : bad) due("33: chain(" + b[0] + ", " + b[1] + ", 0, " + b[2] + ")", x.chain(b[0], b[1], 0, b[2]), -2);
    due("33: of another sort", x.chain(0, 0, 0, 1), -13);
    due("33: of another sort, none asked", x.chain(0, 2, 0, 0), -13);
    due("33: of another sort, ahead of the place", x.chain(0, 2, 99, 1), -13);
    for (int sort = 0; sort < 3; sort++) due("33: missing", x.chain(1, sort, 0, 1), -11);
    due("33: missing, none asked", x.chain(1, 0, 0, 0), -11);
    due("33: nobody came", x.count(0), 0);
  }

  private static void taken() {
    WallsOfPrisoners x = new WallsOfPrisoners();
    for (int kind = 0; kind < 6; kind++) x.man(kind, kind + 2, 0);
    boolean[][] is = {
        {true, false, false, false, false, false},
        {true, true, false, false, false, false},
        {true, false, true, false, false, false},
        {true, true, false, true, false, false},
        {true, false, true, false, true, false},
        {true, false, false, false, false, true}};
    for (int one = 0; one < 6; one++) {
      for (int k = 0; k < 6; k++) due("34: taken(" + one + ", " + k + ")", x.taken(one, k), is[one][k] ? one + 2 : -13);
    }
    for (int k : new int[] {6, -1, MIN, MAX}) {
      due("34: taken(0, " + k + ")", x.taken(0, k), -2);
      due("34: BAD ahead of -11", x.taken(9, k), -2);
    }
    for (int one : new int[] {6, -1, MIN, MAX}) due("34: taken(" + one + ", 0)", x.taken(one, 0), -11);
    x.out(3);
    due("34: one who is OUT", x.taken(3, 1), 5);
    due("34: nobody", new WallsOfPrisoners().taken(0, 0), -11);
  }
}
