import java.util.ArrayList;
import java.util.List;

/**
 * What is told in thought, against the same done really in a prison that was made alike: ORDER, LET, LETS IN, SWAPS,
 * DRAWN, n HOURS, OPENS. Most of the TEXTS have one grip another one otherwise than that one grips back.
 */
public final class ReallyTest {
  private static final Checks CHECKS = new Checks();
  private static final String[] GRIPS = {"strength-cold", "20+strength-next", "next*2-strength-number", "(next-strength)*number+30",
      "9*(strength<next)+7*(next<number*9)+5*(strength+next<50)+strength*(next=strength)", "many*9+strength-next"};
  private static final int[][] OUT = {{}, {0}, {1, 4}, {0, 1}, {0, 1, 2}, {5, 3, 1}, {0, 1, 2, 3}, {0, 1, 2, 4, 5}, {0, 1, 2, 3, 4, 5}};

  private static void due(String call, long got, long want) { CHECKS.due(call, got, want); }

  public static void main(String[] args) {
    for (String grips : GRIPS) {
      for (int[] out : OUT) {
        for (int mixed = 0; mixed < 2; mixed++) {
          String which = grips + ", " + out.length + " OUT, " + (mixed == 0 ? "in order" : "mixed") + ": ";
          order(which, made(grips, out, mixed), made(grips, out, mixed));
          let(which, made(grips, out, mixed), made(grips, out, mixed));
          letsIn(which, made(grips, out, mixed), made(grips, out, mixed));
          drawn(which, made(grips, out, mixed), grips, out, mixed);
          run(which, made(grips, out, mixed), made(grips, out, mixed));
          opens(which, made(grips, out, mixed), made(grips, out, mixed));
        }
      }
    }
    swaps();
    CHECKS.end("ReallyTest");
  }

  private static WallsOfPrisoners made(String grips, int[] out, int mixed) {
    WallsOfPrisoners x = new WallsOfPrisoners();
    int[][] men = {{1, 3, 22}, {0, 0, 31}, {3, 3, 24}, {2, 4, 31}, {4, 1, 19}, {5, 2, 27}};
    for (int[] m : men) x.man(m[0], m[1], m[2]);
    x.set(0, 0, 3);
    x.set(1, 0, 2);
    Prison.rule(x, "grips " + grips + ";hands 3;tires 1+(strength<25);");
    if (mixed == 1) {
      x.swap(0, 4);
      x.swap(1, 3);
      x.swap(2, 4);
    }
    for (int one : out) x.out(one);
    return x;
  }

  private static List<Integer> ring(WallsOfPrisoners x) {
    List<Integer> ring = new ArrayList<>();
    for (int place = 0; place < x.wall(3); place++) ring.add(x.told(place, 7));
    return ring;
  }

  private static int digits(List<Integer> ring) {
    int digits = 0;
    for (int one : ring) digits = digits * 10 + one + 1;
    return digits;
  }

  private static void order(String which, WallsOfPrisoners x, WallsOfPrisoners really) {
    int[] best = {-1, Integer.MAX_VALUE};
    List<Integer> ring = ring(really);
    orders(really, ring, 1, best);
    due("18: " + which + "digits", x.order(0), ring.isEmpty() ? 0 : best[1]);
    due("18: " + which + "how hard", x.order(1), best[0]);
  }

  /** All orders of those from a PLACE on, by changes of places that are laid back. */
  private static void orders(WallsOfPrisoners really, List<Integer> ring, int from, int[] best) {
    if (from >= ring.size()) {
      int hard = really.wall(0), digits = digits(ring);
      if (hard > best[0] || hard == best[0] && digits < best[1]) {
        best[0] = hard;
        best[1] = digits;
      }
      return;
    }
    for (int place = from; place < ring.size(); place++) {
      change(really, ring, from, place);
      orders(really, ring, from + 1, best);
      change(really, ring, from, place);
    }
  }

  private static void change(WallsOfPrisoners really, List<Integer> ring, int place, int other) {
    if (place == other) return;
    int one = ring.get(place), two = ring.get(other);
    really.swap(one, two);
    ring.set(place, two);
    ring.set(other, one);
  }

  private static void let(String which, WallsOfPrisoners x, WallsOfPrisoners really) {
    int best = -1, hard = -1;
    for (int one = 0; one < 6 && really.wall(3) > 2; one++) {
      int place = really.out(one);
      if (place < 0) continue;
      if (really.wall(0) > hard) {
        hard = really.wall(0);
        best = one;
      }
      really.into(one, place);
    }
    due("19: " + which + "who", x.let(0), best);
    due("19: " + which + "how hard", x.let(1), hard);
  }

  private static void letsIn(String which, WallsOfPrisoners x, WallsOfPrisoners really) {
    for (int one = 0; one < 6; one++) {
      int best = -1, hard = -1;
      if (really.told(one, 5) != -1) continue;
      int places = really.wall(3);
      for (int place = 1; place <= places; place++) {
        really.into(one, place);
        if (really.wall(0) > hard) {
          hard = really.wall(0);
          best = place;
        }
        really.out(one);
      }
      due("20: " + which + "the PLACE of " + one, x.letsIn(one, 0), best);
      due("20: " + which + "how hard with " + one, x.letsIn(one, 1), hard);
    }
  }

  private static void drawn(String which, WallsOfPrisoners x, String grips, int[] out, int mixed) {
    for (int seed = -3; seed < 3; seed++) {
      WallsOfPrisoners really = made(grips, out, mixed);
      int y = seed * 7654321;
      for (int n = 0; n <= 20; n++) {
        due("25: " + which + "drawn(" + seed * 7654321 + ", " + n + ")", x.drawn(seed * 7654321, n), really.wall(0));
        int z = y * 1103515245 + 12345;
        y = z * 1103515245 + 12345;
        int one = really.told((z >>> 9) % 8, 7), other = really.told((y >>> 9) % 8, 7);
        if (one >= 0 && other >= 0) really.swap(one, other);
      }
    }
  }

  private static void run(String which, WallsOfPrisoners x, WallsOfPrisoners really) {
    for (int n = 0; n <= 40; n++) {
      due("16: " + which + n + " HOURS, WEAKEST", x.run(n, 0), really.wall(0));
      due("16: " + which + n + " HOURS, GATES", x.run(n, 1), really.wall(1));
      for (int one = 0; one < 6; one++) due("16: " + which + n + " HOURS, of " + one, x.run(n, 10 + one), really.told(one, 3));
      really.hour();
    }
  }

  private static void opens(String which, WallsOfPrisoners x, WallsOfPrisoners really) {
    int hours = 0;
    while (hours <= 60 && really.wall(1) == 0) {
      really.hour();
      hours++;
    }
    due("17: " + which, x.opens(), hours > 60 ? -1 : hours);
  }

  /** Six hold in one order round alone; all orders of theirs, each by how few changes it becomes that one, either way round. */
  private static void swaps() {
    String next = "grips (strength-next)*(strength-next)=1 or (strength-next)*(strength-next)=25;hands 0;tires 0;";
    for (int code = 0; code < 46656; code++) {
      int[] strengths = new int[6];
      int seen = 0;
      for (int i = 0, rest = code; i < 6; i++, rest /= 6) {
        strengths[i] = 10 + rest % 6;
        seen |= 1 << rest % 6;
      }
      if (seen != 63) continue;
      WallsOfPrisoners x = Prison.of(strengths);
      Prison.rule(x, next);
      int least = 6;
      for (int turn = 0; turn < 6; turn++) {
        for (int way = -1; way < 2; way += 2) least = Math.min(least, changes(strengths, turn, way));
      }
      due("21: swaps() of order " + code, x.swaps(), least > 2 ? -1 : least);
    }
  }

  /** An order needs as many changes as there are places, less one for each ring of places that change among themselves. */
  private static int changes(int[] strengths, int turn, int way) {
    boolean[] told = new boolean[6];
    int changes = 6;
    for (int i = 0; i < 6; i++) {
      if (told[i]) continue;
      changes--;
      for (int at = i; !told[at]; at = Math.floorMod((strengths[at] - 10) * way + turn, 6)) told[at] = true;
    }
    return changes;
  }
}
