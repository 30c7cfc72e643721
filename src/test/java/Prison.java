/** What the tests make prisons with. */
final class Prison {
  private Prison() { }

  static void feed(WallsOfPrisoners x, String text) {
    for (int i = 0; i < text.length(); i++) x.feed(text.charAt(i));
  }

  /** What text() answers to these bytes on an empty tape. */
  static int text(WallsOfPrisoners x, String text) {
    feed(x, text);
    return x.text();
  }

  static void rule(WallsOfPrisoners x, String text) {
    int number = text(x, text);
    if (number < 0) throw new IllegalArgumentException(text + " is no text: " + number);
    x.force(number);
  }

  /** MEN of KIND 0, NUMBER 0. */
  static WallsOfPrisoners of(int... strengths) {
    WallsOfPrisoners x = new WallsOfPrisoners();
    for (int strength : strengths) x.man(0, 0, strength);
    return x;
  }

  /** One of each KIND, who is numbered as it. */
  static WallsOfPrisoners ofKinds(int number, int strength) {
    WallsOfPrisoners x = new WallsOfPrisoners();
    for (int kind = 0; kind < 6; kind++) x.man(kind, number, strength);
    return x;
  }

  static void row(WallsOfPrisoners x, int sheet, int sort, int... numbers) {
    x.sheet(sheet, sort, numbers.length);
    for (int i = 0; i < numbers.length; i++) x.cell(sheet, i, numbers[i]);
  }

  /** Who stands where, as digits, 1 more than each. */
  static int ring(WallsOfPrisoners x) {
    int digits = 0;
    for (int place = 0; place < x.wall(3); place++) digits = digits * 10 + x.told(place, 7) + 1;
    return digits;
  }
}
