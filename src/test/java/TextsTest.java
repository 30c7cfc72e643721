/** Promises 7 to 9: feed, text, force; what a TEXT is worth, where its FAULT is. */
public final class TextsTest {
  private static final Checks CHECKS = new Checks();
  private static final String REST = ";hands 1;tires 1;";

  private static void due(String call, long got, long want) { CHECKS.due(call, got, want); }

  public static void main(String[] args) {
    feed();
    rightTexts();
    faults();
    faultsOfDepth();
    full();
    worth();
    names();
    partsApart();
    force();
    CHECKS.end("TextsTest");
  }

  private static void feed() {
    WallsOfPrisoners x = new WallsOfPrisoners();
    for (int bad : new int[] {-1, 256, Integer.MAX_VALUE, Integer.MIN_VALUE}) due("7: feed(" + bad + ")", x.feed(bad), -2);
    due("7: nothing came", x.count(4), 0);
    due("7: feed(0)", x.feed(0), 1);
    due("7: feed(255)", x.feed(255), 2);
    for (int i = 3; i <= 160; i++) due("7: feed(32)", x.feed(32), i);
    due("7: FULL", x.feed(32), -4);
    due("7: BAD ahead of FULL", x.feed(256), -2);
    due("7: bytes", x.count(4), 160);
    due("8: a byte that begins none", x.text(), -100);
    due("8: empty by a FAULT, too", x.count(4), 0);
    due("7: room again", x.feed(32), 1);
  }

  private static void right(String text) {
    WallsOfPrisoners x = new WallsOfPrisoners();
    due("8: text() of '" + text + "'", Prison.text(x, text), 1);
    due("8: TEXTS", x.count(3), 2);
    due("8: THE TAPE is empty", x.count(4), 0);
    due("8: THE RULE stays", x.count(5), 0);
  }

  private static void rightTexts() {
    right("grips strength - cold ; hands 3 ; tires 1 ;");
    right("grips1;hands2;tires3;");
    right(" \n grips\n1\n;hands 1;tires 1; \n");
    right("grips 0000" + REST);
    right("grips 9999" + REST);
    right("grips not 1 < 2 or 3 = 4 and not not next" + REST);
    right("grips --1+-(2)*-cold" + REST);
    right("grips(not(1<2)=(3=3))*(1 or 0)" + REST);
    right("grips 1" + REST + " ".repeat(136));
    right(" ".repeat(136) + "grips 1" + REST);
  }

  private static void fault(String text, int place) {
    WallsOfPrisoners x = new WallsOfPrisoners();
    due("8: FAULT of '" + text + "'", Prison.text(x, text), -100 - place);
    due("8: no TEXT more", x.count(3), 1);
    due("8: THE TAPE is empty", x.count(4), 0);
  }

  private static void faults() {
    fault("", 0);
    fault("  ", 2);
    fault("grips", 5);
    fault("grips ", 6);
    fault("grips 1", 7);
    fault("grips 1;", 8);
    fault("grips 1;hands 1;tires 1", 23);
    fault("grips 1;hands 1;tires 1 \n ", 26);
    fault("grips 1;hands 1;tires 1;x", 24);
    fault("grips 1;hands 1;tires 1; ;", 25);
    fault("grips 1;hands 1;tires 1;grips 1;", 24);
    fault("hands 1;", 0);
    fault("grips 1;tires 1;", 8);
    fault("grips 1;hands 1;hands 1;", 16);
    fault("Grips 1;", 0);
    fault("grip 1;", 0);
    fault("gripss 1;", 0);
    fault("gripsstrength;", 0);
    fault("grips nex" + REST, 6);
    fault("grips nextt" + REST, 6);
    fault("grips coldz" + REST, 6);
    fault("grips colda" + REST, 6);
    fault("grips 12345" + REST, 6);
    fault("grips 00000" + REST, 6);
    fault("grips 1 12345", 8);
    fault("grips 1 2", 8);
    fault("grips 1hour", 7);
    fault("grips ;", 6);
    fault("grips grips", 6);
    fault("grips 1 or", 10);
    fault("grips 1 or ;", 11);
    fault("grips or 1", 6);
    fault("grips 1 < 2 < 3", 12);
    fault("grips 1 = 2 < 3", 12);
    fault("grips < 1", 6);
    fault("grips 1 + not 2", 10);
    fault("grips 1 < not 2", 10);
    fault("grips - not 2", 8);
    fault("grips 1 not 2", 8);
    fault("grips + 1", 6);
    fault("grips * 1", 6);
    fault("grips 1 * * 2", 10);
    fault("grips 1)", 7);
    fault("grips ()", 7);
    fault("grips (1;", 8);
    fault("grips (1", 8);
    fault("grips (1 2)", 9);
    fault("grips 1\t;", 7);
    fault("grips 1\r;", 7);
    fault("grips 1 > 2", 8);
    fault("grips 1 #", 8);
    fault("grips 1;hands 1;tires 1;" + (char) 255, 24);
    fault("grips 1;hands 1 #;tires 12345;", 16);
  }

  private static void faultsOfDepth() {
    right("grips (((((1)))))" + REST);
    fault("grips ((((((1))))))" + REST, 11);
    right("grips -----1" + REST);
    fault("grips ------1" + REST, 11);
    right("grips not not not not not 1" + REST);
    fault("grips not not not not not not 1" + REST, 26);
    right("grips not (-(-1))" + REST);
    fault("grips not(-(-(1)))" + REST, 13);
    right("grips -1 + (((((2)))))" + REST);
    right("grips -1 - -1 - -1 - -1 - -1 - -1 - -1" + REST);
    fault("grips not 1 + (((((2)))))" + REST, 18);
    fault("grips not 1 < (((((2)))))" + REST, 18);
    right("grips not 1 and (((((2)))))" + REST);
    right("grips not 1 or not not not not not 1" + REST);
    right("grips (1)+(1)+(1)+(1)+(1)+(1)+(1)" + REST);
    right("grips -(1)*(((((2)))))" + REST);
    right("grips (not 1)+(((((2)))))" + REST);
    right("grips (((((1)))));hands (((((1)))));tires (((((1)))));");
    right("grips not ((((1-2-3*4-5))))" + REST);
  }

  private static void full() {
    WallsOfPrisoners x = new WallsOfPrisoners();
    for (int i = 1; i < 6; i++) {
      Prison.text(x, "grips");
      due("8: its number", Prison.text(x, "grips " + i + REST), i);
    }
    due("8: TEXTS", x.count(3), 6);
    due("8: FULL, ahead of all", x.text(), -4);
    Prison.feed(x, "grips");
    due("8: FULL", x.text(), -4);
    due("8: THE TAPE stays", x.count(4), 5);
    x.man(0, 0, 50);
    x.man(0, 0, 50);
    for (int i = 5; i > 0; i--) {
      x.force(i);
      due("8: each TEXT is its own", x.grips(0, 1), i);
    }
    x.force(0);
    due("8: TEXT 0 too", x.grips(0, 1), 50);
  }

  /** How hard a MAN grips by an E; COLD 7, HOUR 5, STRENGTH 30, NUMBER 3, the other one's STRENGTH 50. */
  private static void worth(String e, int want) {
    WallsOfPrisoners x = Prison.of(30, 50, 1);
    x.set(2, 0, 3);
    x.set(1, 0, 7);
    x.set(0, 0, 5);
    Prison.rule(x, "grips " + e + REST);
    due("8: " + e, x.grips(0, 1), want);
  }

  private static void worth() {
    worth("1+2*3", 7);
    worth("(1+2)*3", 9);
    worth("10-3-2", 5);
    worth("10-(3-2)", 9);
    worth("2*3*4", 24);
    worth("-3+5", 2);
    worth("5--3", 8);
    worth("-3*-4", 12);
    worth("- -4", 4);
    worth("-4", 0);
    worth("100", 99);
    worth("0042", 42);
    worth("not 0", 1);
    worth("not 5", 0);
    worth("not -5", 0);
    worth("not not 5", 1);
    worth("not 1+1=3", 1);
    worth("20*(not 1<2)+3", 3);
    worth("2<3", 1);
    worth("3<3", 0);
    worth("3<2", 0);
    worth("-1<0", 1);
    worth("3=3", 1);
    worth("3=2", 0);
    worth("1+1=2", 1);
    worth("5 or 0", 1);
    worth("0 or 0", 0);
    worth("0 or -7", 1);
    worth("7 and 3", 1);
    worth("7 and 0", 0);
    worth("0 and 7", 0);
    worth("4 and 2", 1);
    worth("1 or 0 and 0", 1);
    worth("0 and 0 or 1", 1);
    worth("(1 or 0) and 0", 0);
    worth("not 0 and 0", 0);
    worth("50+(2 or 3)", 51);
    worth("50+(0 or 0)", 50);
    worth("50+(7 and 0)", 50);
    worth("50+(3<2)", 50);
    worth("50+(3=2)", 50);
    worth("50+(not 7)", 50);
    worth("0 or 0 or 4", 1);
    worth("9999*9999*43<9999*9999", 1);
    worth("9999*9999*22<0", 1);
    worth("9999*9999*43-4172*1000-739", 8);
  }

  private static void names() {
    worth("strength", 30);
    worth("next", 50);
    worth("number", 3);
    worth("hour", 5);
    worth("cold", 7);
    worth("many", 3);
    worth("next-strength*(number<4)-hour", 15);
    WallsOfPrisoners x = Prison.of(40, 41, 42);
    Prison.rule(x, "grips 10*many;hands 10*many;tires 10*many;");
    x.out(0);
    due("8: many, of those who stand there", x.grips(0, 1), 20);
    due("8: many, of hands", x.hands(1, 99), 79);
    due("8: many, of tires", x.told(2, 6), 20);
    x.out(1);
    x.out(2);
    due("8: many, nobody", x.grips(0, 1), 0);
  }

  private static void partsApart() {
    WallsOfPrisoners x = Prison.of(40, 41);
    Prison.rule(x, "grips 11;hands number+next+12;tires strength+next-27;");
    due("8: grips", x.grips(0, 1), 11);
    due("8: hands", x.hands(0, 50), 38);
    due("8: tires", x.told(1, 6), 14);
  }

  private static void force() {
    WallsOfPrisoners x = new WallsOfPrisoners();
    due("9: no such TEXT", x.force(1), -2);
    Prison.text(x, "grips 7" + REST);
    due("9: TEXT 1", x.force(1), 0);
    due("9: THE RULE", x.count(5), 1);
    due("9: again", x.force(1), 1);
    due("9: TEXT 0", x.force(0), 1);
    for (int bad : new int[] {2, 6, -1, Integer.MAX_VALUE, Integer.MIN_VALUE}) due("9: force(" + bad + ")", x.force(bad), -2);
    due("9: a refusal changes nothing", x.count(5), 0);
  }
}
