import java.util.Random;

/** Runs of drawn calls on a new object and on the model: every answer has to be the model's. */
public final class ModelTest {
  private static final int[] FAR = {Integer.MIN_VALUE, Integer.MIN_VALUE + 1, -1000, -3, -2, -1, 100, 160, 255, 256, 999,
      1000, Integer.MAX_VALUE - 2, Integer.MAX_VALUE - 1, Integer.MAX_VALUE};
  private static final String[] LEAVES = {"strength", "next", "number", "hour", "cold", "many", "0", "1", "2", "7", "30", "99", "9999"};
  private static final String NOISE = "();+-*<=a 0\nz9gA\t#";

  private final Random random;
  private final Checks checks;
  private final WallsOfPrisoners x = new WallsOfPrisoners();
  private final Model m = new Model();
  private final int seed;
  private final int crowd;
  private int calls = 0;

  private ModelTest(int seed, Checks checks) {
    this.seed = seed;
    this.random = new Random(seed);
    this.checks = checks;
    // some prisons fill at once, others stay half empty, so that sheets and images bring men too
    this.crowd = this.random.nextInt(3) > 0 ? 12 : 200;
  }

  public static void main(String[] args) {
    Checks checks = new Checks();
    int from = args.length > 0 ? Integer.parseInt(args[0]) : 0;
    int runs = args.length > 1 ? Integer.parseInt(args[1]) : 600;
    for (int seed = from; seed < from + runs; seed++) {
      if (seed % 3 == 0) new ModelTest(seed, checks).goByOrders();
      else new ModelTest(seed, checks).go();
    }
    checks.end("ModelTest");
  }

  private void due(String call, long got, long want) {
    calls++;
    checks.due("run " + seed + ", call " + calls + ": " + call, got, want);
  }

  private void go() {
    int men = random.nextInt(8);
    for (int i = 0; i < men; i++) man();
    if (random.nextInt(3) > 0) text();
    while (calls < 500) {
      if (random.nextInt(40) == 0 && calls < 300) text();
      else if (random.nextInt(crowd) == 0) man();
      else any(random.nextInt(33));
    }
  }

  /** Drawn calls seldom come to an order that matters, so that here nothing but orders is asked. */
  private void goByOrders() {
    for (int i = 0; i < 6; i++) due("man", x.man(i % 5, i, 20 + 3 * i), m.man(i % 5, i, 20 + 3 * i));
    if (random.nextInt(4) > 0) known("grips " + ofTwo() + ";hands 1;tires 1;");
    while (calls < 480) {
      int one = random.nextInt(6), s = random.nextInt(45), k = random.nextInt(60);
      due("set(3, " + one + ", " + s + ")", x.set(3, one, s), m.set(3, one, s));
      if (random.nextInt(9) == 0) due("out(" + one + ")", x.out(one), m.out(one));
      if (random.nextInt(6) == 0) due("into(" + one + ", 1)", x.into(one, 1), m.into(one, 1));
      any(9);
      due("swaps()", x.swaps(), m.swaps());
      for (int what = 0; what < 2; what++) {
        due("order(" + what + ")", x.order(what), m.order(what));
        due("let(" + what + ")", x.let(what), m.let(what));
        due("letsIn(" + one + ", " + what + ")", x.letsIn(one, what), m.letsIn(one, what));
        due("chance(" + s + ", 40, " + k + ", " + what + ")", x.chance(s, 40, k, what), m.chance(s, 40, k, what));
      }
    }
  }

  private void known(String text) {
    for (char c : text.toCharArray()) due("feed(" + (int) c + ")", x.feed(c), m.feed(c));
    due("text() of " + text, x.text(), m.text());
    due("force(1)", x.force(1), m.force(1));
  }

  /** Mostly a number up to a bound, now and then one a bit or far outside. */
  private int upTo(int most) {
    int r = random.nextInt(40);
    return r == 0 ? FAR[random.nextInt(FAR.length)] : r == 1 ? most + 1 : r == 2 ? -1 : r == 3 ? most : random.nextInt(most + 1);
  }

  private int strength() { return random.nextInt(3) == 0 ? upTo(99) : 20 + random.nextInt(30); }

  private void man() {
    int k = upTo(5), n = random.nextBoolean() ? upTo(9) : random.nextInt(3), s = strength();
    due("man(" + k + ", " + n + ", " + s + ")", x.man(k, n, s), m.man(k, n, s));
  }

  private String blank() { return random.nextInt(4) == 0 ? " " : random.nextInt(20) == 0 ? "\n" : ""; }

  private String spaced(String a, String sign, String b) { return a + blank() + sign + blank() + b; }

  private String expression(int depth) {
    int r = random.nextInt(depth > 3 ? 4 : 14);
    String a = r < 4 ? LEAVES[random.nextInt(LEAVES.length)] : expression(depth + 1);
    if (r < 4) return a;
    if (r == 4) return "(" + a + ")";
    if (r == 5) return "not " + a;
    if (r == 6) return "-" + blank() + a;
    String b = expression(depth + 1);
    String[] signs = {"+", "-", "*", "<", "=", " and ", " or "};
    return spaced(a, signs[r - 7], b);
  }

  /** By it some two hold and others don't, as is wanted where orders are compared. */
  private String ofTwo() {
    int k = random.nextInt(25);
    String[] all = {"(strength < next+" + k + ")*" + (k + 30), "40-(strength-next)*(strength-next)",
        "(next*7+number*number<" + (10 * k + 60) + " or strength=next)*strength", "strength*(number<" + k % 10 + ")+next-" + k};
    return all[random.nextInt(all.length)];
  }

  private void text() {
    if (m.count(4) > 0 && random.nextInt(10) > 0) due("text() of noise", x.text(), m.text());
    StringBuilder all = new StringBuilder();
    for (String key : new String[] {"grips", "hands", "tires"}) {
      String e = key.equals("grips") && random.nextBoolean() ? ofTwo() : expression(random.nextInt(3));
      all.append(key).append(" ").append(random.nextBoolean() ? e : e + " + 20").append(blank()).append(";").append(blank());
    }
    if (random.nextInt(4) == 0) {
      int at = random.nextInt(all.length());
      if (random.nextBoolean()) all.deleteCharAt(at);
      else all.insert(at, NOISE.charAt(random.nextInt(NOISE.length())));
    }
    for (int i = 0; i < all.length() && i < 162; i++) {
      int c = all.charAt(i);
      due("feed(" + c + ")", x.feed(c), m.feed(c));
    }
    due("text() of " + all, x.text(), m.text());
    due("count(3)", x.count(3), m.count(3));
    int t = Math.max(0, m.count(3) - 1);
    due("force(" + t + ")", x.force(t), m.force(t));
  }

  private void any(int which) {
    int a, b, c, d, e;
    switch (which) {
      case 0: a = upTo(3); b = upTo(5); c = a == 0 ? upTo(999) : a == 2 ? upTo(9) : strength();
        due("set(" + a + ", " + b + ", " + c + ")", x.set(a, b, c), m.set(a, b, c)); break;
      case 1: a = upTo(6); b = upTo(8); due("told(" + a + ", " + b + ")", x.told(a, b), m.told(a, b)); break;
      case 2: a = upTo(5); b = upTo(5); due("grips(" + a + ", " + b + ")", x.grips(a, b), m.grips(a, b)); break;
      case 3: a = upTo(5); b = upTo(99); due("hands(" + a + ", " + b + ")", x.hands(a, b), m.hands(a, b)); break;
      case 4: a = upTo(255); due("feed(" + a + ")", x.feed(a), m.feed(a)); break;
      case 5: if (random.nextInt(4) == 0) due("text()", x.text(), m.text()); break;
      case 6: a = upTo(5); due("force(" + a + ")", x.force(a), m.force(a)); break;
      case 7: a = upTo(5); due("out(" + a + ")", x.out(a), m.out(a)); break;
      case 8: a = upTo(5); b = upTo(5); due("into(" + a + ", " + b + ")", x.into(a, b), m.into(a, b)); break;
      case 9: a = upTo(5); b = upTo(5); due("swap(" + a + ", " + b + ")", x.swap(a, b), m.swap(a, b)); break;
      case 10: if (random.nextInt(3) == 0) due("hour()", x.hour(), m.hour()); break;
      case 11: a = upTo(3); due("wall(" + a + ")", x.wall(a), m.wall(a)); break;
      case 12: a = upTo(5); b = upTo(99); c = upTo(2);
        due("sneeze(" + a + ", " + b + ", " + c + ")", x.sneeze(a, b, c), m.sneeze(a, b, c)); break;
      case 13: a = upTo(40); b = random.nextBoolean() ? upTo(1) : 10 + random.nextInt(7);
        due("run(" + a + ", " + b + ")", x.run(a, b), m.run(a, b)); break;
      case 14: due("opens()", x.opens(), m.opens()); break;
      case 15: a = upTo(1); due("order(" + a + ")", x.order(a), m.order(a)); break;
      case 16: a = upTo(1); due("let(" + a + ")", x.let(a), m.let(a)); break;
      case 17: a = upTo(5); b = upTo(1); due("letsIn(" + a + ", " + b + ")", x.letsIn(a, b), m.letsIn(a, b)); break;
      case 18: due("swaps()", x.swaps(), m.swaps()); break;
      case 19: a = upTo(1); due("mean(" + a + ")", x.mean(a), m.mean(a)); break;
      case 20: case 32: a = upTo(3); b = upTo(5); c = upTo(7);
        due("tells(" + a + ", " + b + ", " + c + ")", x.tells(a, b, c), m.tells(a, b, c)); break;
      case 21: a = upTo(3); due("film(" + a + ")", x.film(a), m.film(a)); break;
      case 22: a = random.nextInt(); b = upTo(40); due("drawn(" + a + ", " + b + ")", x.drawn(a, b), m.drawn(a, b)); break;
      case 23: a = random.nextBoolean() ? random.nextInt() : upTo(9); b = upTo(40); c = upTo(50); d = upTo(1);
        due("chance(" + a + ", " + b + ", " + c + ", " + d + ")", x.chance(a, b, c, d), m.chance(a, b, c, d)); break;
      case 24: if (random.nextInt(4) == 0) due("image()", x.image(), m.image()); break;
      case 25: if (random.nextInt(4) == 0) due("back()", x.back(), m.back()); break;
      case 26: a = upTo(5); due("count(" + a + ")", x.count(a), m.count(a)); break;
      case 27: a = upTo(3); b = upTo(2); c = random.nextBoolean() ? upTo(40) : upTo(6);
        due("sheet(" + a + ", " + b + ", " + c + ")", x.sheet(a, b, c), m.sheet(a, b, c)); break;
      case 28: a = upTo(3); b = upTo(12); c = random.nextInt(5) == 0 ? random.nextInt() : upTo(9);
        due("cell(" + a + ", " + b + ", " + c + ")", x.cell(a, b, c), m.cell(a, b, c)); break;
      case 29: a = upTo(3); b = upTo(6); c = upTo(3); d = upTo(6); e = upTo(6);
        due("copy(" + a + ", " + b + ", " + c + ", " + d + ", " + e + ")", x.copy(a, b, c, d, e), m.copy(a, b, c, d, e)); break;
      case 30: a = upTo(3); b = upTo(2); c = upTo(6); d = upTo(3);
        due("chain(" + a + ", " + b + ", " + c + ", " + d + ")", x.chain(a, b, c, d), m.chain(a, b, c, d)); break;
      default: a = upTo(5); b = upTo(5); due("taken(" + a + ", " + b + ")", x.taken(a, b), m.taken(a, b)); break;
    }
  }
}
