/** Promises 10 to 17: out, into, swap, hour, wall, sneeze, run, opens. */
public final class HoursTest {
  private static final Checks CHECKS = new Checks();
  private static final int MIN = Integer.MIN_VALUE, MAX = Integer.MAX_VALUE;

  private static void due(String call, long got, long want) { CHECKS.due(call, got, want); }

  public static void main(String[] args) {
    out();
    into();
    swap();
    hour();
    hourOfKinds();
    wall();
    sneeze();
    sneezeOfFew();
    sneezeRefused();
    run();
    runRefused();
    opens();
    CHECKS.end("HoursTest");
  }

  private static void out() {
    WallsOfPrisoners x = Prison.of(1, 2, 3, 4);
    due("10: out(1)", x.out(1), 1);
    due("10: all others close up", Prison.ring(x), 134);
    due("10: out(3)", x.out(3), 2);
    due("10: out(0)", x.out(0), 0);
    due("10: STATE", x.out(0), -3);
    for (int bad : new int[] {4, -1, MIN, MAX}) due("10: out(" + bad + ")", x.out(bad), -2);
    due("10: who is left", Prison.ring(x), 3);
    due("10: out(2)", x.out(2), 0);
    due("10: nobody", x.wall(3), 0);
    due("10: MEN stay", x.count(0), 4);
    due("10: STRENGTH stays", x.told(3, 3), 4);
  }

  private static void into() {
    WallsOfPrisoners x = Prison.of(1, 2, 3, 4);
    x.out(0);
    x.out(2);
    due("11: last", x.into(0, 2), 3);
    due("11: order", Prison.ring(x), 241);
    due("11: between", x.into(2, 1), 4);
    due("11: order", Prison.ring(x), 2341);
    due("11: STATE", x.into(2, 0), -3);
    due("11: BAD ahead of STATE", x.into(2, 5), -2);
    x.out(3);
    int[][] bad = {{4, 0}, {-1, 0}, {MAX, 0}, {3, 4}, {3, -1}, {3, MIN}, {3, MAX}};
    for (int[] b : bad) due("11: into(" + b[0] + ", " + b[1] + ")", x.into(b[0], b[1]), -2);
    due("11: first", x.into(3, 0), 4);
    due("11: order", Prison.ring(x), 4231);
    WallsOfPrisoners y = Prison.of(1);
    y.out(0);
    due("11: nobody there, PLACE 1", y.into(0, 1), -2);
    due("11: nobody there, PLACE 0", y.into(0, 0), 1);
  }

  private static void swap() {
    WallsOfPrisoners x = Prison.of(30, 26, 40, 25);
    Prison.rule(x, "grips 50-(strength-next)*(strength-next);hands 0;tires 0;");
    due("12: WEAKEST ahead", x.wall(0), 0);
    due("12: WEAKEST then", x.swap(2, 0), 0);
    due("12: order", Prison.ring(x), 3214);
    x.set(3, 2, 31);
    due("12: next to one another", x.swap(0, 1), 14);
    due("12: order", Prison.ring(x), 3124);
    x.out(3);
    int[][] bad = {{0, 0}, {0, 4}, {4, 0}, {-1, 0}, {0, -1}, {3, 0}, {0, 3}, {3, 3}, {MAX, MIN}, {-1, -1}};
    for (int[] b : bad) due("12: swap(" + b[0] + ", " + b[1] + ")", x.swap(b[0], b[1]), -2);
    due("12: a refusal changes nothing", Prison.ring(x), 312);
  }

  private static void hour() {
    WallsOfPrisoners x = Prison.of(5, 1, 9);
    x.out(2);
    due("13: WEAKEST then", x.hour(), 0);
    due("13: HOUR", x.told(0, 0), 1);
    due("13: SPENT", x.told(0, 3), 4);
    due("13: at 0", x.told(1, 3), 0);
    due("13: who is OUT is not SPENT", x.told(2, 3), 9);
    x.hour();
    due("13: STRENGTH 0 at least", x.told(1, 3), 0);
    x.out(1);
    due("13: alone", x.hour(), -1);
    due("13: SPENT alone", x.told(0, 3), 2);
    x.set(0, 0, 998);
    due("13: the last one", x.hour(), -1);
    due("13: STATE", x.hour(), -3);
    due("13: a refusal changes nothing", x.told(0, 0) * 10 + x.told(0, 3), 9991);
    due("13: nobody", new WallsOfPrisoners().hour(), -1);
  }

  private static void hourOfKinds() {
    WallsOfPrisoners x = Prison.ofKinds(0, 50);
    Prison.rule(x, "grips strength;hands 0;tires hour*3+many;");
    x.set(0, 0, 1);
    x.hour();
    int[] want = {41, 46, 40, 46, 50, 50};
    for (int one = 0; one < 6; one++) due("13: STRENGTH of KIND " + one, x.told(one, 3), want[one]);
  }

  private static void wall() {
    WallsOfPrisoners x = new WallsOfPrisoners();
    long[] nobody = {-1, 0, -1, 0};
    for (int what = 0; what < 4; what++) due("14: nobody, " + what, x.wall(what), nobody[what]);
    x.man(0, 0, 0);
    long[] alone = {-1, 0, -1, 1};
    for (int what = 0; what < 4; what++) due("14: alone, " + what, x.wall(what), alone[what]);
    x.man(0, 0, 5);
    long[] two = {0, 2, 0, 2};
    for (int what = 0; what < 4; what++) due("14: two, " + what, x.wall(what), two[what]);
    x.man(0, 0, 7);
    x.man(0, 0, 9);
    x.swap(0, 3);
    long[] four = {0, 2, 2, 4};
    for (int what = 0; what < 4; what++) due("14: four, " + what, x.wall(what), four[what]);
    x.set(3, 0, 8);
    long[] none = {5, 0, -1, 4};
    for (int what = 0; what < 4; what++) due("14: no GATE, " + what, x.wall(what), none[what]);
    for (int bad : new int[] {4, -1, MIN, MAX}) due("14: wall(" + bad + ")", x.wall(bad), -2);
  }

  private static void sneeze() {
    WallsOfPrisoners x = Prison.of(1, 2, 3);
    long[][] want = {{0, -1, 0}, {1, 1, 1}, {1, 1, 3}, {2, 2, 1}, {4, 1, 1}, {33, 0, 3}};
    int[] hard = {0, 1, 3, 4, 10, 99};
    for (int i = 0; i < hard.length; i++) {
      for (int what = 0; what < 3; what++) {
        due("15: sneeze(0, " + hard[i] + ", " + what + ")", x.sneeze(0, hard[i], what), want[i][what]);
      }
    }
    Prison.rule(x, "grips 0;hands 0;tires 0;");
    long[] ever = {60, 0, 7};
    for (int what = 0; what < 3; what++) due("15: no more than 60, " + what, x.sneeze(0, 7, what), ever[what]);
    Prison.rule(x, "grips 0;hands 1;tires 0;");
    long[] sixty = {60, 2, 1};
    for (int what = 0; what < 3; what++) due("15: just 60, " + what, x.sneeze(2, 60, what), sixty[what]);
    due("15: 61 would be more", x.sneeze(2, 61, 0) * 100 + x.sneeze(2, 61, 2), 6002);
    due("15: 59", x.sneeze(2, 59, 0), 59);
    x.swap(0, 1);
    due("15: round by PLACES", x.sneeze(1, 2, 1), 2);
  }

  private static void sneezeOfFew() {
    WallsOfPrisoners x = Prison.of(1, 2);
    long[] two = {4, 0, 1};
    for (int what = 0; what < 3; what++) due("15: of two, " + what, x.sneeze(0, 10, what), two[what]);
    x.out(1);
    long[] alone = {0, -1, 0};
    for (int what = 0; what < 3; what++) due("15: alone, " + what, x.sneeze(0, 10, what), alone[what]);
    WallsOfPrisoners y = Prison.ofKinds(0, 1);
    long[] kinds = {60, 0, 8};
    for (int what = 0; what < 3; what++) due("15: of KINDS, " + what, y.sneeze(0, 20, what), kinds[what]);
    y.set(0, 0, 1);
    due("15: HOUR odd, TWIN lets nothing on", y.sneeze(0, 8, 0), 3);
    due("15: HOUR odd, who", y.sneeze(0, 8, 1), 3);
    due("15: HOUR odd, how hard", y.sneeze(0, 8, 2), 2);
  }

  private static void sneezeRefused() {
    WallsOfPrisoners x = Prison.of(1, 2, 3);
    x.out(1);
    int[][] bad = {{3, 1, 0}, {-1, 1, 0}, {1, 1, 0}, {0, 100, 0}, {0, -1, 0}, {0, 1, 3}, {0, 1, -1}, {MAX, MIN, MAX}, {0, MAX, 0}, {0, 0, MIN}};
    for (int[] b : bad) due("15: sneeze(" + b[0] + ", " + b[1] + ", " + b[2] + ")", x.sneeze(b[0], b[1], b[2]), -2);
  }

  private static void run() {
    WallsOfPrisoners x = Prison.of(30, 20, 45, 44);
    x.out(3);
    due("16: now", x.run(0, 0), 20);
    due("16: WEAKEST", x.run(19, 0), 1);
    due("16: no GATES", x.run(19, 1), 0);
    due("16: GATES", x.run(20, 1), 2);
    due("16: all GATES", x.run(30, 1), 3);
    due("16: 40", x.run(40, 12), 5);
    due("16: 0 at least", x.run(40, 10), 0);
    due("16: who is OUT", x.run(40, 13), 44);
    due("16: in thought", x.told(0, 0) * 100 + x.told(0, 3), 30);
    x.set(0, 0, 999);
    due("16: HOUR may pass 999", x.run(3, 11), 17);
    Prison.rule(x, "grips hour-990;hands 0;tires 0;");
    due("16: HOUR 1039", x.run(40, 0), 49);
    due("16: HOUR stays", x.told(0, 0), 999);
    due("16: nobody", new WallsOfPrisoners().run(5, 0), -1);
    due("16: nobody's GATES", new WallsOfPrisoners().run(5, 1), 0);
  }

  private static void runRefused() {
    WallsOfPrisoners x = Prison.of(1, 2);
    int[][] bad = {{41, 0}, {-1, 0}, {MAX, 0}, {MIN, 0}, {0, 2}, {0, 9}, {0, -1}, {0, 12}, {0, MAX}, {0, MIN}, {0, MIN + 10}};
    for (int[] b : bad) due("16: run(" + b[0] + ", " + b[1] + ")", x.run(b[0], b[1]), -1000);
  }

  private static void opens() {
    due("17: nobody", new WallsOfPrisoners().opens(), -1);
    due("17: alone", Prison.of(0).opens(), -1);
    due("17: now", Prison.of(5, 0, 7).opens(), 0);
    due("17: 5", Prison.of(5, 30, 7).opens(), 5);
    due("17: 60", Prison.of(60, 70).opens(), 60);
    due("17: 61 is too far", Prison.of(61, 70).opens(), -1);
    WallsOfPrisoners x = Prison.of(5, 30, 7);
    x.set(0, 0, 999);
    due("17: HOUR may pass 999", x.opens(), 5);
    due("17: in thought", x.told(0, 0) * 10 + x.told(0, 3), 9995);
    Prison.rule(x, "grips not hour=1010;hands 0;tires 0;");
    due("17: by HOUR", x.opens(), 11);
    Prison.rule(x, "grips not hour=1005;hands 0;tires 0;");
    due("17: first", x.opens(), 6);
  }
}
