import java.util.ArrayList;
import java.util.List;

/**
 * A prison in which every part of what is kept holds something of its own, and all that can be told of it.
 * Telling all spends the prison: it takes THE TAPE with it, and some 310 of the 512 calls that an object has.
 */
final class Whole {
  private static final int[] SIZES = {0, 1, 2, 3, 5, 6, 7, 8, 39, 40};

  private Whole() { }

  /** Five MEN, who stand as 5, 2, 4, 1; THE IMAGE is of the first two; a TEXT lacks its last byte on THE TAPE. */
  static WallsOfPrisoners made() {
    WallsOfPrisoners x = new WallsOfPrisoners();
    Prison.text(x, "grips strength-cold+many;hands 2;tires 3;");
    x.man(1, 3, 40);
    x.man(3, 4, 41);
    x.set(0, 0, 31);
    x.image();
    x.man(2, 1, 42);
    x.man(4, 5, 43);
    x.man(5, 6, 44);
    x.set(0, 0, 7);
    x.set(1, 0, 5);
    x.out(2);
    x.swap(0, 4);
    x.force(1);
    Prison.row(x, 0, 0, 1, 2, 33, 4, 5, 66);
    Prison.row(x, 1, 1, 2, 7, 55, 3, 4, 5, 9);
    Prison.row(x, 2, 2, 4, 1, 3, 0, 8);
    Prison.feed(x, "grips 7;hands 8;tires 9");
    return x;
  }

  static List<Long> told(WallsOfPrisoners x) {
    List<Long> all = new ArrayList<>();
    addMarsh(x, all);
    addTape(x, all);
    addSizes(x, all);
    all.add((long) x.back());
    addMarsh(x, all);
    addItems(x, all);
    return all;
  }

  private static void addMarsh(WallsOfPrisoners x, List<Long> all) {
    for (int what = 0; what < 6; what++) all.add((long) x.count(what));
    all.add((long) x.told(0, 1));
    for (int one = 0; one < 6; one++) {
      for (int what = 2; what < 9; what++) all.add((long) x.told(one, what));
      all.add((long) x.grips(one, (one + 1) % 6));
      all.add((long) x.hands(one, 50));
    }
  }

  private static void addTape(WallsOfPrisoners x, List<Long> all) {
    x.feed(';');
    int text = x.text();
    all.add((long) text);
    all.add((long) x.force(Math.max(0, text)));
    all.add((long) x.grips(0, 1));
    all.add((long) x.hands(0, 50));
    all.add((long) x.told(2, 6));
  }

  private static void addSizes(WallsOfPrisoners x, List<Long> all) {
    for (int sheet = 0; sheet < 4; sheet++) {
      for (int sort = 0; sort < 3; sort++) all.add((long) x.chain(sheet, sort, 0, 0));
      for (int n : SIZES) all.add((long) x.copy(sheet, 0, sheet, 0, n));
    }
  }

  /** The items of a SHEET, whose sort is its number, are told by those who come by it. */
  private static void addItems(WallsOfPrisoners x, List<Long> all) {
    for (int sheet = 0; sheet < 4; sheet++) {
      all.add((long) x.tells(sheet, 0, 0));
      for (int from = 0; from < 5; from++) {
        x.back();
        all.add((long) x.chain(sheet, sheet % 3, from, 1));
        int one = x.count(0) - 1;
        for (int what = 2; what < 5; what++) all.add((long) x.told(one, what));
      }
    }
  }
}
