import java.util.ArrayDeque;
import java.util.ArrayList;
import java.util.Arrays;
import java.util.Collections;
import java.util.Deque;
import java.util.List;

/**
 * The document once more, written for nothing but plainness, and by other ways than the program's: whole worlds are
 * copied, all orders listed, a TEXT's FAULT found by what is open, its worth by cutting it at its weakest sign.
 */
final class Model {
  interface Worth { int of(int strength, int next, int number, World w); }

  record Token(String word, int place) { }

  record Text(Worth grips, Worth hands, Worth tires) { }

  static final class Fellow {
    int kind, number, strength;
    Fellow(int kind, int number, int strength) { this.kind = kind; this.number = number; this.strength = strength; }
  }

  static final class World {
    List<Fellow> men = new ArrayList<>();
    List<Integer> ring = new ArrayList<>();
    int hour, cold, rule;
    final List<Text> texts;

    World(List<Text> texts) { this.texts = texts; }

    World twin() {
      World w = new World(texts);
      for (Fellow f : men) w.men.add(new Fellow(f.kind, f.number, f.strength));
      w.ring.addAll(ring);
      w.hour = hour; w.cold = cold; w.rule = rule;
      return w;
    }

    int grip(int one, int other) {
      Fellow a = men.get(one), b = men.get(other);
      int v = clamp(texts.get(rule).grips.of(a.strength, b.strength, a.number, this));
      boolean brotherly = b.kind == 1 || b.kind == 3;
      int[] out = {v, brotherly ? 2 * v : v, v - a.number, a.number == b.number ? 99 : brotherly ? 2 * v : v,
          v - a.number + (hour > 20 ? 20 : hour), a.strength};
      return clamp(out[a.kind]);
    }

    int hand(int one, int come) {
      Fellow a = men.get(one);
      int v = clamp(texts.get(rule).hands.of(a.strength, 0, a.number, this));
      int less = come - v;
      int[] out = {less, come, less / 2, hour % 2 == 0 ? come : less, come < 5 ? come : less / 2, less + 10};
      return clamp(out[a.kind]);
    }

    int spent(int one) {
      Fellow a = men.get(one);
      int v = clamp(texts.get(rule).tires.of(a.strength, 0, a.number, this));
      int[] out = {v, v / 2, v + 1, v / 2, cold > 20 ? v + 1 : 0, 0};
      return clamp(out[a.kind]);
    }

    List<Integer> holds() {
      List<Integer> holds = new ArrayList<>();
      for (int i = 0; i < ring.size() && ring.size() > 1; i++) {
        int a = ring.get(i), b = ring.get((i + 1) % ring.size());
        holds.add(Math.min(grip(a, b), grip(b, a)));
      }
      return holds;
    }

    int weakest() { return holds().isEmpty() ? -1 : Collections.min(holds()); }

    World later(int hours) {
      World w = twin();
      for (int h = 0; h < hours; h++) {
        int[] spent = new int[w.men.size()];
        for (int one : w.ring) spent[one] = w.spent(one);
        for (int one : w.ring) w.men.get(one).strength = Math.max(0, w.men.get(one).strength - spent[one]);
        w.hour++;
      }
      return w;
    }
  }

  final List<Text> texts = new ArrayList<>();
  World w = new World(texts);
  World image = null;
  final List<Integer> tape = new ArrayList<>();
  final int[][] sheets = new int[4][];
  final int[] sorts = {-1, -1, -1, -1};

  Model() {
    for (char c : "grips strength - cold ; hands 3 ; tires 1 ;".toCharArray()) tape.add((int) c);
    text();
  }

  static int clamp(int v) { return Math.max(0, Math.min(99, v)); }

  boolean is(int one) { return one >= 0 && one < w.men.size(); }

  boolean stands(int one) { return w.ring.contains(one); }

  // ---- texts: which TOKEN can't stand there

  private List<Token> tokens() {
    List<Token> all = new ArrayList<>();
    StringBuilder chars = new StringBuilder();
    for (int c : tape) chars.append((char) c);
    for (int i = 0; i < chars.length(); ) {
      int from = i;
      char c = chars.charAt(i++);
      if (c == ' ' || c == '\n') continue;
      if (c >= 'a' && c <= 'z') while (i < chars.length() && chars.charAt(i) >= 'a' && chars.charAt(i) <= 'z') i++;
      if (c >= '0' && c <= '9') while (i < chars.length() && chars.charAt(i) >= '0' && chars.charAt(i) <= '9') i++;
      all.add(new Token(chars.substring(from, i), from));
    }
    return all;
  }

  private static final List<String> NAMES = List.of("strength", "next", "number", "hour", "cold", "many");
  private static final List<String> KEYS = List.of("grips", "hands", "tires");

  private static boolean isLeaf(String t) { return NAMES.contains(t) || t.matches("[0-9]{1,4}"); }

  /** The number of the first TOKEN that can't stand there; as many as there are: it ends too early; -1: none. */
  private static int fault(List<Token> all) {
    Deque<String> open = new ArrayDeque<>();
    Deque<Boolean> compared = new ArrayDeque<>();
    int part = 0;
    boolean key = true, operand = false, notCan = false;
    for (int i = 0; i < all.size(); i++) {
      String t = all.get(i).word;
      if (key) {
        if (part >= 3 || !t.equals(KEYS.get(part))) return i;
        key = false; operand = true; notCan = true;
        compared.clear();
        compared.push(false);
      } else if (operand) {
        if (isLeaf(t)) {
          operand = false;
          while ("-".equals(open.peek())) open.pop();
        } else if (t.equals("(") || t.equals("-") || t.equals("not") && notCan) {
          if (open.size() >= 5) return i;
          open.push(t);
          if (t.equals("(")) compared.push(false);
          notCan = !t.equals("-");
        } else {
          return i;
        }
      } else {
        switch (t) {
          case "+": case "-": case "*":
            operand = true; notCan = false;
            break;
          case "<": case "=":
            if (compared.pop()) return i;
            compared.push(true);
            operand = true; notCan = false;
            break;
          case "and": case "or":
            while ("not".equals(open.peek())) open.pop();
            compared.pop();
            compared.push(false);
            operand = true; notCan = true;
            break;
          case ")":
            while ("not".equals(open.peek())) open.pop();
            if (open.isEmpty()) return i;
            open.pop();
            compared.pop();
            while ("-".equals(open.peek())) open.pop();
            break;
          case ";":
            while ("not".equals(open.peek())) open.pop();
            if (!open.isEmpty()) return i;
            part++;
            key = true;
            break;
          default:
            return i;
        }
      }
    }
    return key && part == 3 ? -1 : all.size();
  }

  // ---- texts: what they are worth

  private static Worth cut(List<Token> t, String... signs) {
    if (signs.length == 0) return null;
    int depth = 0, at = -1;
    for (int i = 0; i < t.size(); i++) {
      String s = t.get(i).word;
      if (s.equals("(")) depth++;
      if (s.equals(")")) depth--;
      boolean between = i > 0 && (isLeaf(t.get(i - 1).word) || t.get(i - 1).word.equals(")"));
      if (depth == 0 && between && Arrays.asList(signs).contains(s)) at = i;
    }
    if (at < 0) return null;
    Worth a = worth(t.subList(0, at)), b = worth(t.subList(at + 1, t.size()));
    switch (t.get(at).word) {
      case "or": return (s, n, m, w) -> a.of(s, n, m, w) != 0 | b.of(s, n, m, w) != 0 ? 1 : 0;
      case "and": return (s, n, m, w) -> a.of(s, n, m, w) != 0 & b.of(s, n, m, w) != 0 ? 1 : 0;
      case "<": return (s, n, m, w) -> a.of(s, n, m, w) < b.of(s, n, m, w) ? 1 : 0;
      case "=": return (s, n, m, w) -> a.of(s, n, m, w) == b.of(s, n, m, w) ? 1 : 0;
      case "+": return (s, n, m, w) -> a.of(s, n, m, w) + b.of(s, n, m, w);
      case "-": return (s, n, m, w) -> a.of(s, n, m, w) - b.of(s, n, m, w);
      default: return (s, n, m, w) -> a.of(s, n, m, w) * b.of(s, n, m, w);
    }
  }

  private static Worth worth(List<Token> t) {
    Worth cut = cut(t, "or");
    if (cut == null) cut = cut(t, "and");
    String first = t.get(0).word;
    if (cut == null && first.equals("not")) {
      Worth rest = worth(t.subList(1, t.size()));
      return (s, n, m, w) -> rest.of(s, n, m, w) == 0 ? 1 : 0;
    }
    if (cut == null) cut = cut(t, "<", "=");
    if (cut == null) cut = cut(t, "+", "-");
    if (cut == null) cut = cut(t, "*");
    if (cut != null) return cut;
    if (first.equals("-")) {
      Worth rest = worth(t.subList(1, t.size()));
      return (s, n, m, w) -> -rest.of(s, n, m, w);
    }
    switch (first) {
      case "(": return worth(t.subList(1, t.size() - 1));
      case "strength": return (s, n, m, w) -> s;
      case "next": return (s, n, m, w) -> n;
      case "number": return (s, n, m, w) -> m;
      case "hour": return (s, n, m, w) -> w.hour;
      case "cold": return (s, n, m, w) -> w.cold;
      case "many": return (s, n, m, w) -> w.ring.size();
      default:
        int v = Integer.parseInt(first);
        return (s, n, m, w) -> v;
    }
  }

  int text() {
    if (texts.size() >= 6) return -4;
    List<Token> all = tokens();
    int size = tape.size();
    tape.clear();
    int fault = fault(all);
    if (fault >= 0) return -100 - (fault < all.size() ? all.get(fault).place : size);
    List<Worth> parts = new ArrayList<>();
    int from = 1;
    for (int i = 0; i < all.size(); i++) {
      if (all.get(i).word.equals(";")) {
        parts.add(worth(all.subList(from, i)));
        from = i + 2;
      }
    }
    texts.add(new Text(parts.get(0), parts.get(1), parts.get(2)));
    return texts.size() - 1;
  }

  // ---- all other calls

  int set(int what, int of, int v) {
    int[] most = {999, 99, 9, 99};
    if (what < 0 || what > 3 || v < 0 || v > most[what] || what > 1 && !is(of)) return -2;
    int was = what == 0 ? w.hour : what == 1 ? w.cold : what == 2 ? w.men.get(of).number : w.men.get(of).strength;
    if (what == 0) w.hour = v;
    if (what == 1) w.cold = v;
    if (what == 2) w.men.get(of).number = v;
    if (what == 3) w.men.get(of).strength = v;
    return was;
  }

  int man(int kind, int number, int strength) {
    if (kind < 0 || kind > 5 || number < 0 || number > 9 || strength < 0 || strength > 99) return -2;
    if (w.men.size() == 6) return -4;
    w.men.add(new Fellow(kind, number, strength));
    w.ring.add(w.men.size() - 1);
    return w.men.size() - 1;
  }

  int told(int of, int what) {
    if (what == 0) return w.hour;
    if (what == 1) return w.cold;
    if (what == 7) return of >= 0 && of < w.ring.size() ? w.ring.get(of) : -1000;
    if (what == 8) return of >= 0 && of < w.holds().size() ? w.holds().get(of) : -1000;
    if (what < 0 || what > 8 || !is(of)) return -1000;
    Fellow f = w.men.get(of);
    return what == 2 ? f.number : what == 3 ? f.strength : what == 4 ? f.kind
        : what == 5 ? w.ring.indexOf(of) : w.spent(of);
  }

  int grips(int one, int other) { return is(one) && is(other) && one != other ? w.grip(one, other) : -2; }

  int hands(int one, int come) { return is(one) && come >= 0 && come <= 99 ? w.hand(one, come) : -2; }

  int feed(int letter) {
    if (letter < 0 || letter > 255) return -2;
    if (tape.size() == 160) return -4;
    tape.add(letter);
    return tape.size();
  }

  int force(int text) {
    if (text < 0 || text >= texts.size()) return -2;
    int was = w.rule;
    w.rule = text;
    return was;
  }

  int out(int one) {
    if (!is(one)) return -2;
    if (!stands(one)) return -3;
    int place = w.ring.indexOf(one);
    w.ring.remove(place);
    return place;
  }

  int into(int one, int place) {
    if (!is(one) || place < 0 || place > w.ring.size()) return -2;
    if (stands(one)) return -3;
    w.ring.add(place, one);
    return w.ring.size();
  }

  int swap(int one, int other) {
    if (!is(one) || !is(other) || one == other || !stands(one) || !stands(other)) return -2;
    Collections.swap(w.ring, w.ring.indexOf(one), w.ring.indexOf(other));
    return w.weakest();
  }

  int hour() {
    if (w.hour == 999) return -3;
    w = w.later(1);
    return w.weakest();
  }

  int wall(int what) {
    if (what < 0 || what > 3) return -2;
    return what == 0 ? w.weakest() : what == 1 ? Collections.frequency(w.holds(), 0)
        : what == 2 ? w.holds().indexOf(0) : w.ring.size();
  }

  int sneeze(int one, int hard, int what) {
    if (!is(one) || !stands(one) || hard < 0 || hard > 99 || what < 0 || what > 2) return -2;
    List<int[]> got = new ArrayList<>();
    int at = w.ring.indexOf(one), h = hard;
    while (w.ring.size() > 1 && h > 0 && got.size() < 60) {
      at = (at + 1) % w.ring.size();
      got.add(new int[] {w.ring.get(at), h});
      h = w.hand(w.ring.get(at), h);
    }
    if (what == 0) return got.size();
    if (got.isEmpty()) return what == 1 ? -1 : 0;
    return got.get(got.size() - 1)[what - 1];
  }

  int run(int n, int what) {
    if (n < 0 || n > 40 || what < 0 || what > 1 && what < 10 || what >= 10 && !is(what - 10)) return -1000;
    World then = w.later(n);
    return what == 0 ? then.weakest() : what == 1 ? Collections.frequency(then.holds(), 0)
        : then.men.get(what - 10).strength;
  }

  int opens() {
    for (int n = 0; n <= 60; n++) if (w.later(n).holds().contains(0)) return n;
    return -1;
  }

  private static void ordersOf(List<Integer> ahead, List<Integer> left, List<List<Integer>> all) {
    if (left.isEmpty()) all.add(new ArrayList<>(ahead));
    for (Integer one : left) {
      List<Integer> on = new ArrayList<>(ahead), rest = new ArrayList<>(left);
      on.add(one);
      rest.remove(one);
      ordersOf(on, rest, all);
    }
  }

  int order(int what) {
    if (what < 0 || what > 1) return -2;
    if (w.ring.isEmpty()) return what == 0 ? 0 : -1;
    List<List<Integer>> all = new ArrayList<>();
    List<Integer> left = new ArrayList<>(w.ring.subList(1, w.ring.size()));
    Collections.sort(left);
    ordersOf(w.ring.subList(0, 1), left, all);
    int hard = -2, digits = 0;
    for (List<Integer> ring : all) {
      World t = w.twin();
      t.ring = ring;
      if (t.weakest() > hard) {
        hard = t.weakest();
        digits = 0;
        for (int one : ring) digits = digits * 10 + one + 1;
      }
    }
    return what == 0 ? digits : hard;
  }

  int let(int what) {
    if (what < 0 || what > 1) return -2;
    int best = -1, hard = -1;
    for (int one = 0; one < w.men.size(); one++) {
      if (!stands(one) || w.ring.size() < 3) continue;
      World t = w.twin();
      t.ring.remove((Integer) one);
      if (t.weakest() > hard) { hard = t.weakest(); best = one; }
    }
    return what == 0 ? best : hard;
  }

  int letsIn(int one, int what) {
    if (!is(one) || what < 0 || what > 1) return -2;
    if (stands(one)) return -3;
    int best = -1, hard = -1;
    for (int place = 1; place <= w.ring.size(); place++) {
      World t = w.twin();
      t.ring.add(place, one);
      if (t.weakest() > hard) { hard = t.weakest(); best = place; }
    }
    return what == 0 ? best : hard;
  }

  int swaps() {
    List<List<Integer>> rings = List.of(w.ring);
    for (int n = 0; n <= 2; n++) {
      List<List<Integer>> more = new ArrayList<>();
      for (List<Integer> ring : rings) {
        World t = w.twin();
        t.ring = new ArrayList<>(ring);
        if (!t.holds().contains(0)) return n;
        for (int i = 0; i < ring.size(); i++) {
          for (int j = i + 1; j < ring.size(); j++) {
            List<Integer> other = new ArrayList<>(ring);
            Collections.swap(other, i, j);
            if (!more.contains(other)) more.add(other);
          }
        }
      }
      rings = more;
    }
    return -1;
  }

  private static long lowest(long above, long below, int part) {
    long by = 1;
    for (long d = 1; d <= below; d++) if (above % d == 0 && below % d == 0) by = d;
    return (part == 0 ? above : below) / by;
  }

  long mean(int part) {
    if (part < 0 || part > 1 || w.ring.isEmpty()) return WallsOfPrisoners.NO;
    long sum = 0;
    for (int one : w.ring) sum += w.men.get(one).strength;
    return lowest(sum, w.ring.size(), part);
  }

  private static int otherwise(World w, int[] told) {
    List<Integer> holds = w.holds();
    for (int i = 0; i < told.length; i++) if (i >= holds.size() || holds.get(i) != told[i]) return i;
    return -1;
  }

  int tells(int sheet, int one, int what) {
    if (sheet < 0 || sheet > 3 || !is(one) || what < 0 || what > 7) return -2;
    int[] told = sheets[sheet];
    if (told == null) return -11;
    if (told.length > 6) return -2;
    if (what == 0) return otherwise(w, told);
    List<Integer> fit = new ArrayList<>();
    for (int v = 0; v < 100; v++) {
      World t = w.twin();
      if (what == 1) { if (v > 5) break; t.men.get(one).kind = v; }
      if (what == 2) { if (v > 9) break; t.men.get(one).number = v; }
      if (what == 3 || what == 4) t.men.get(one).strength = v;
      if (what == 5 || what == 6) t.cold = v;
      if (what == 7) { if (v >= texts.size()) break; t.rule = v; }
      if (otherwise(t, told) == -1) fit.add(v);
    }
    if (what == 3 || what == 5) return fit.size();
    if (what == 4 || what == 6) return fit.isEmpty() ? -1 : fit.get(0);
    int bits = 0;
    for (int v : fit) bits += 1 << v;
    return bits;
  }

  int film(int sheet) {
    if (sheet < 0 || sheet > 3) return -2;
    List<Integer> holds = w.holds();
    sheets[sheet] = new int[holds.size()];
    for (int i = 0; i < holds.size(); i++) sheets[sheet][i] = holds.get(i);
    sorts[sheet] = 0;
    return holds.size();
  }

  int drawn(int seed, int n) {
    if (n < 0 || n > 40) return -2;
    World t = w.twin();
    int x = seed;
    for (int i = 0; i < n; i++) {
      x = x * 1103515245 + 12345;
      int a = (x >>> 9) % 8;
      x = x * 1103515245 + 12345;
      int b = (x >>> 9) % 8;
      if (a < t.ring.size() && b < t.ring.size()) Collections.swap(t.ring, a, b);
    }
    return t.weakest();
  }

  long chance(int seed, int m, int k, int part) {
    if (m < 1 || m > 40 || k < 0 || k > 99 || part < 0 || part > 1) return WallsOfPrisoners.NO;
    int good = 0;
    for (int i = 0; i < m; i++) if (drawn(seed + i, 6) >= k) good++;
    return lowest(good, m, part);
  }

  int image() {
    image = w.twin();
    return w.men.size();
  }

  int back() {
    if (image == null) return -3;
    w = image.twin();
    return w.men.size();
  }

  int count(int what) {
    if (what < 0 || what > 5) return -2;
    return new int[] {w.men.size(), w.ring.size(), w.hour, texts.size(), tape.size(), w.rule}[what];
  }

  int sheet(int sheet, int sort, int n) {
    if (sheet < 0 || sheet > 3 || sort < -1 || sort > 2) return -2;
    if (sort >= 0 && n > 40) return -2;
    if (sort >= 0 && n < 0) return -14;
    sheets[sheet] = sort < 0 ? null : new int[n];
    sorts[sheet] = sort;
    return 1;
  }

  int cell(int sheet, int i, int v) {
    if (sheet < 0 || sheet > 3) return -2;
    if (sheets[sheet] == null) return -11;
    if (i < 0 || i >= sheets[sheet].length) return -12;
    sheets[sheet][i] = sorts[sheet] == 0 ? (byte) v : sorts[sheet] == 1 ? (short) v : v;
    return 1;
  }

  int copy(int sheet, int i, int other, int j, int n) {
    if (sheet < 0 || sheet > 3 || other < 0 || other > 3) return -2;
    if (sheets[sheet] == null || sheets[other] == null) return -11;
    if (sorts[sheet] != sorts[other]) return -13;
    if (i < 0 || j < 0 || n < 0 || (long) i + n > sheets[sheet].length || (long) j + n > sheets[other].length) return -12;
    int[] were = sheets[sheet].clone();
    for (int k = 0; k < n; k++) sheets[other][j + k] = were[i + k];
    return n;
  }

  int chain(int sheet, int sort, int from, int n) {
    if (sheet < 0 || sheet > 3 || sort < 0 || sort > 2 || n < 0 || n > 6) return -2;
    if (sheets[sheet] == null) return -11;
    if (sorts[sheet] != sort) return -13;
    int came = 0;
    for (long at = from; at < (long) from + 3L * n; at += 3) {
      if (at < 0 || at + 2 >= sheets[sheet].length) return -12;
      int k = (int) at;
      if (man(sheets[sheet][k], sheets[sheet][k + 1], sheets[sheet][k + 2]) >= 0) came++;
    }
    return came;
  }

  int taken(int one, int k) {
    if (k < 0 || k > 5) return -2;
    if (!is(one)) return -11;
    int kind = w.men.get(one).kind;
    boolean under = k == kind || k == 0 || k == 1 && kind == 3 || k == 2 && kind == 4;
    return under ? w.men.get(one).number : -13;
  }
}
