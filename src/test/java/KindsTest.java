/** What comes out of GRIPS, HANDS ON and SPENT by each KIND: at each bound, and at each number that the words name. */
public final class KindsTest {
  private static final Checks CHECKS = new Checks();
  private static final int MAN = 0, BROTHER = 1, NEWCOMER = 2, TWIN = 3, LONGER = 4, GIANT = 5;

  private static void due(String call, long got, long want) { CHECKS.due(call, got, want); }

  public static void main(String[] args) {
    gripsOfMan();
    gripsOfBrother();
    gripsOfNewcomer();
    gripsOfTwin();
    gripsOfLonger();
    gripsOfGiant();
    handsOfEach();
    handsOfTwin();
    handsOfLonger();
    handsBoundOnce();
    spentOfEach();
    spentOfLonger();
    whatTextsTellIsBounded();
    strengthStaysAboveZero();
    nextOfHandsAndTires();
    namesAreOnesOwn();
    CHECKS.end("KindsTest");
  }

  /** How hard one GRIPS another one, if grips tells v. */
  private static int grips(String v, int kind, int number, int other, int otherNumber, int hour) {
    WallsOfPrisoners x = new WallsOfPrisoners();
    x.man(kind, number, 77);
    x.man(other, otherNumber, 11);
    x.set(0, 0, hour);
    Prison.rule(x, "grips " + v + ";hands 1;tires 1;");
    return x.grips(0, 1);
  }

  private static void gripsOfMan() {
    for (int v : new int[] {0, 1, 98, 99}) {
      for (int other = 0; other < 6; other++) due("MAN grips " + v, grips("" + v, MAN, 5, other, 5, 30), v);
    }
    due("MAN below 0", grips("-1", MAN, 0, MAN, 0, 0), 0);
    due("MAN above 99", grips("100", MAN, 0, MAN, 0, 0), 99);
  }

  private static void gripsOfBrother() {
    int[] twice = {1, 3};
    int[] once = {0, 2, 4, 5};
    for (int other : twice) {
      due("BROTHER, twice 0", grips("0", BROTHER, 1, other, 1, 0), 0);
      due("BROTHER, twice 1", grips("1", BROTHER, 1, other, 1, 0), 2);
      due("BROTHER, twice 49", grips("49", BROTHER, 1, other, 1, 0), 98);
      due("BROTHER, twice 50, 99 at most", grips("50", BROTHER, 1, other, 1, 0), 99);
      due("BROTHER, twice 99, 99 at most", grips("99", BROTHER, 1, other, 1, 0), 99);
    }
    for (int other : once) {
      due("BROTHER, to KIND " + other, grips("49", BROTHER, 1, other, 1, 0), 49);
      due("BROTHER, 99 to KIND " + other, grips("99", BROTHER, 1, other, 1, 0), 99);
    }
    due("MAN to a BROTHER", grips("20", MAN, 1, BROTHER, 1, 0), 20);
    due("NEWCOMER to a BROTHER", grips("20", NEWCOMER, 1, BROTHER, 1, 0), 19);
  }

  private static void gripsOfNewcomer() {
    due("NEWCOMER, NUMBER 0", grips("9", NEWCOMER, 0, MAN, 0, 0), 9);
    due("NEWCOMER, NUMBER 8", grips("9", NEWCOMER, 8, MAN, 0, 0), 1);
    due("NEWCOMER, just 0", grips("9", NEWCOMER, 9, MAN, 0, 0), 0);
    due("NEWCOMER, 0 at least", grips("8", NEWCOMER, 9, MAN, 0, 0), 0);
    due("NEWCOMER, 0 at least, of 0", grips("0", NEWCOMER, 9, MAN, 0, 0), 0);
    due("NEWCOMER, of 99", grips("99", NEWCOMER, 9, MAN, 0, 0), 90);
    due("NEWCOMER by its own NUMBER", grips("50", NEWCOMER, 2, MAN, 9, 0), 48);
    due("NEWCOMER minds no HOUR", grips("50", NEWCOMER, 2, MAN, 9, 20), 48);
    due("NEWCOMER to a NEWCOMER", grips("50", NEWCOMER, 2, NEWCOMER, 2, 0), 48);
  }

  private static void gripsOfTwin() {
    for (int other = 0; other < 6; other++) {
      due("TWIN, of like NUMBER 0, KIND " + other, grips("0", TWIN, 0, other, 0, 0), 99);
      due("TWIN, of like NUMBER 9, KIND " + other, grips("5", TWIN, 9, other, 9, 0), 99);
      int want = other == BROTHER || other == TWIN ? 40 : 20;
      due("TWIN, NUMBER 1 more, KIND " + other, grips("20", TWIN, 4, other, 5, 0), want);
      due("TWIN, NUMBER 1 less, KIND " + other, grips("20", TWIN, 4, other, 3, 0), want);
    }
    due("TWIN as a BROTHER, 98", grips("49", TWIN, 4, BROTHER, 5, 0), 98);
    due("TWIN as a BROTHER, 99 at most", grips("50", TWIN, 4, TWIN, 5, 0), 99);
    due("BROTHER of like NUMBER is no TWIN", grips("5", BROTHER, 4, BROTHER, 4, 0), 10);
  }

  private static void gripsOfLonger() {
    int[] hours = {0, 1, 19, 20, 21, 22, 999};
    int[] more = {0, 1, 19, 20, 20, 20, 20};
    for (int i = 0; i < hours.length; i++) {
      due("LONGER, HOUR " + hours[i], grips("50", LONGER, 3, MAN, 0, hours[i]), 47 + more[i]);
    }
    due("LONGER, below 0 by 1", grips("0", LONGER, 9, MAN, 0, 8), 0);
    due("LONGER, just 0", grips("0", LONGER, 9, MAN, 0, 9), 0);
    due("LONGER, 1", grips("0", LONGER, 9, MAN, 0, 10), 1);
    due("LONGER, the bound is laid once, not on the NEWCOMER's", grips("2", LONGER, 9, MAN, 0, 8), 1);
    due("LONGER, 98", grips("98", LONGER, 9, MAN, 0, 9), 98);
    due("LONGER, 99", grips("99", LONGER, 9, MAN, 0, 9), 99);
    due("LONGER, 99 at most", grips("99", LONGER, 9, MAN, 0, 10), 99);
    due("LONGER, 99 at most, of 20", grips("99", LONGER, 0, MAN, 0, 20), 99);
  }

  private static void gripsOfGiant() {
    for (int strength : new int[] {0, 1, 98, 99}) {
      for (String v : new String[] {"0", "99", "-5", "strength+7"}) {
        WallsOfPrisoners x = new WallsOfPrisoners();
        x.man(GIANT, 4, strength);
        x.man(BROTHER, 4, 30);
        Prison.rule(x, "grips " + v + ";hands 1;tires 1;");
        due("GIANT of STRENGTH " + strength + ", " + v, x.grips(0, 1), strength);
      }
    }
  }

  /** How much one HANDS ON, if hands tells v. */
  private static int hands(String v, int kind, int come, int hour) {
    WallsOfPrisoners x = new WallsOfPrisoners();
    x.man(kind, 0, 77);
    x.set(0, 0, hour);
    Prison.rule(x, "grips 1;hands " + v + ";tires 1;");
    return x.hands(0, come);
  }

  private static void handsOfEach() {
    int[] come = {0, 1, 2, 3, 4, 5, 6, 7, 91, 92, 93, 99};
    int[] man = {0, 0, 0, 0, 1, 2, 3, 4, 88, 89, 90, 96};
    int[] newcomer = {0, 0, 0, 0, 0, 1, 1, 2, 44, 44, 45, 48};
    int[] giant = {7, 8, 9, 10, 11, 12, 13, 14, 98, 99, 99, 99};
    for (int i = 0; i < come.length; i++) {
      due("MAN hands on of " + come[i], hands("3", MAN, come[i], 0), man[i]);
      due("BROTHER hands on of " + come[i], hands("3", BROTHER, come[i], 1), come[i]);
      due("NEWCOMER hands on of " + come[i], hands("3", NEWCOMER, come[i], 0), newcomer[i]);
      due("GIANT hands on of " + come[i], hands("3", GIANT, come[i], 0), giant[i]);
    }
    due("MAN, all is lost", hands("99", MAN, 99, 0), 0);
    due("MAN, nothing is lost", hands("0", MAN, 99, 0), 99);
    due("BROTHER, all, though 99 are lost", hands("99", BROTHER, 7, 0), 7);
  }

  private static void handsOfTwin() {
    int[] hours = {0, 1, 2, 3, 998, 999};
    for (int hour : hours) {
      due("TWIN, HOUR " + hour, hands("3", TWIN, 10, hour), hour % 2 == 0 ? 10 : 7);
      due("TWIN, HOUR " + hour + ", all of 0", hands("3", TWIN, 0, hour), 0);
    }
    due("TWIN, HOUR odd, 0 at least", hands("3", TWIN, 2, 1), 0);
    due("TWIN, HOUR even, 99", hands("3", TWIN, 99, 0), 99);
  }

  private static void handsOfLonger() {
    int[] come = {0, 1, 3, 4, 5, 6, 7, 98, 99};
    int[] want = {0, 1, 3, 4, 1, 1, 2, 47, 48};
    for (int i = 0; i < come.length; i++) due("LONGER hands on of " + come[i], hands("3", LONGER, come[i], 0), want[i]);
    due("LONGER, all of 4, though 99 are lost", hands("99", LONGER, 4, 0), 4);
    due("LONGER, nothing of 5", hands("99", LONGER, 5, 0), 0);
    due("LONGER, what comes counts, not what goes", hands("9", LONGER, 10, 0), 0);
    due("LONGER minds no HOUR", hands("3", LONGER, 7, 21), 2);
  }

  private static void handsBoundOnce() {
    due("GIANT, the bound is not laid on the MAN's", hands("20", GIANT, 5, 0), 0);
    due("GIANT, just 0", hands("20", GIANT, 10, 0), 0);
    due("GIANT, 1", hands("20", GIANT, 11, 0), 1);
    due("GIANT, 10 of a MAN's 0", hands("20", GIANT, 20, 0), 10);
    due("GIANT, 9 of a MAN's -1", hands("20", GIANT, 19, 0), 9);
    due("NEWCOMER, half of a MAN's -1 is 0", hands("20", NEWCOMER, 19, 0), 0);
    due("NEWCOMER, half of a MAN's 1 is 0", hands("20", NEWCOMER, 21, 0), 0);
    due("NEWCOMER, half of a MAN's 2 is 1", hands("20", NEWCOMER, 22, 0), 1);
    due("NEWCOMER, half of a MAN's -40 is 0", hands("90", NEWCOMER, 50, 0), 0);
  }

  /** How much one is SPENT, if tires tells v. */
  private static int spent(String v, int kind, int cold) {
    WallsOfPrisoners x = new WallsOfPrisoners();
    x.man(kind, 5, 77);
    x.set(1, 0, cold);
    Prison.rule(x, "grips 1;hands 1;tires " + v + ";");
    return x.told(0, 6);
  }

  private static void spentOfEach() {
    int[] v = {0, 1, 2, 3, 97, 98, 99};
    int[] half = {0, 0, 1, 1, 48, 49, 49};
    int[] more = {1, 2, 3, 4, 98, 99, 99};
    for (int i = 0; i < v.length; i++) {
      due("MAN is SPENT " + v[i], spent("" + v[i], MAN, 50), v[i]);
      due("BROTHER is SPENT half of " + v[i], spent("" + v[i], BROTHER, 50), half[i]);
      due("NEWCOMER is SPENT 1 more than " + v[i], spent("" + v[i], NEWCOMER, 0), more[i]);
      due("TWIN is SPENT half of " + v[i], spent("" + v[i], TWIN, 50), half[i]);
      due("GIANT is SPENT 0 of " + v[i], spent("" + v[i], GIANT, 50), 0);
    }
  }

  private static void spentOfLonger() {
    int[] colds = {0, 1, 19, 20, 21, 22, 99};
    int[] want = {0, 0, 0, 0, 8, 8, 8};
    for (int i = 0; i < colds.length; i++) due("LONGER, COLD " + colds[i], spent("7", LONGER, colds[i]), want[i]);
    due("LONGER, 99", spent("98", LONGER, 21), 99);
    due("LONGER, 99 at most", spent("99", LONGER, 21), 99);
    due("LONGER, 1 more than 0", spent("0", LONGER, 21), 1);
    due("LONGER, 0, though it is 99", spent("99", LONGER, 20), 0);
  }

  /** Seen by those KINDS that make more or less of it, else their own bound would hide it. */
  private static void whatTextsTellIsBounded() {
    due("grips -1 is 0", grips("-1", LONGER, 0, MAN, 0, 20), 20);
    due("grips -9999 is 0", grips("-9999", LONGER, 0, MAN, 0, 20), 20);
    due("grips 1 is 1", grips("1", LONGER, 0, MAN, 0, 20), 21);
    due("grips 99 is 99", grips("99", NEWCOMER, 9, MAN, 0, 0), 90);
    due("grips 100 is 99", grips("100", NEWCOMER, 9, MAN, 0, 0), 90);
    due("grips 9999 is 99", grips("9999", NEWCOMER, 9, MAN, 0, 0), 90);
    due("hands -1 is 0", hands("-1", MAN, 50, 0), 50);
    due("hands -9999 is 0", hands("-9999", MAN, 50, 0), 50);
    due("hands -1 is 0, of a GIANT", hands("-1", GIANT, 50, 0), 60);
    due("hands 99 is 99", hands("99", GIANT, 95, 0), 6);
    due("hands 100 is 99", hands("100", GIANT, 95, 0), 6);
    due("hands 9999 is 99", hands("9999", GIANT, 95, 0), 6);
    due("tires -1 is 0", spent("-1", NEWCOMER, 0), 1);
    due("tires -9999 is 0", spent("-9999", NEWCOMER, 0), 1);
    due("tires 99 is 99", spent("99", BROTHER, 0), 49);
    due("tires 100 is 99", spent("100", BROTHER, 0), 49);
    due("tires 9999 is 99", spent("9999", BROTHER, 0), 49);
  }

  private static void nextOfHandsAndTires() {
    WallsOfPrisoners x = Prison.of(40, 50, 60);
    Prison.rule(x, "grips next;hands next;tires next;");
    for (int one = 0; one < 3; one++) {
      due("next of grips is the other one's STRENGTH", x.grips(one, (one + 1) % 3), 40 + 10 * ((one + 1) % 3));
      due("next of grips, the other way", x.grips(one, (one + 2) % 3), 40 + 10 * ((one + 2) % 3));
      due("next of hands is 0", x.hands(one, 70), 70);
      due("next of tires is 0", x.told(one, 6), 0);
    }
    x.out(1);
    due("next of grips, of one who is OUT", x.grips(0, 1), 50);
    due("13: nobody is SPENT", x.hour() * 100 + x.told(0, 3), 4040);
    WallsOfPrisoners y = Prison.of(40, 50, 60, 70, 80, 90);
    Prison.rule(y, "grips next;hands next;tires next;");
    for (int one = 0; one < 6; one++) {
      due("of six, next of hands is 0", y.hands(one, 70), 70);
      due("of six, next of tires is 0", y.told(one, 6), 0);
    }
  }

  private static void namesAreOnesOwn() {
    WallsOfPrisoners x = new WallsOfPrisoners();
    for (int one = 0; one < 6; one++) x.man(MAN, 9 - one, 10 + one);
    Prison.rule(x, "grips number*10;hands number;tires strength;");
    for (int one = 0; one < 6; one++) {
      due("number of grips, of " + one, x.grips(one, 5 - one), 90 - 10 * one);
      due("number of hands, of " + one, x.hands(one, 50), 41 + one);
      due("strength of tires, of " + one, x.told(one, 6), 10 + one);
    }
    Prison.rule(x, "grips strength;hands strength;tires number;");
    for (int one = 0; one < 6; one++) {
      due("strength of grips, of " + one, x.grips(one, 5 - one), 10 + one);
      due("strength of hands, of " + one, x.hands(one, 50), 40 - one);
      due("number of tires, of " + one, x.told(one, 6), 9 - one);
    }
    Prison.rule(x, "grips hour+2*cold;hands hour+2*cold;tires hour+2*cold;");
    x.set(0, 0, 5);
    x.set(1, 0, 7);
    due("hour and cold of grips", x.grips(0, 1), 19);
    due("hour and cold of hands", x.hands(0, 50), 31);
    due("hour and cold of tires", x.told(0, 6), 19);
    Prison.rule(x, "grips many;hands many;tires many;");
    for (int standing = 6; standing >= 0; standing--) {
      due("many of grips", x.grips(0, 1), standing);
      due("many of hands", x.hands(0, 50), 50 - standing);
      due("many of tires", x.told(0, 6), standing);
      if (standing > 0) x.out(standing - 1);
    }
  }

  private static void strengthStaysAboveZero() {
    int[] strengths = {0, 1, 2, 3, 4, 99};
    int[] left = {0, 0, 0, 0, 1, 96};
    for (int i = 0; i < strengths.length; i++) {
      WallsOfPrisoners x = Prison.of(strengths[i]);
      Prison.rule(x, "grips 1;hands 1;tires 3;");
      due("13: STRENGTH " + strengths[i] + ", SPENT 3, in thought", x.run(1, 10), left[i]);
      x.hour();
      due("13: STRENGTH " + strengths[i] + ", SPENT 3", x.told(0, 3), left[i]);
    }
  }
}
