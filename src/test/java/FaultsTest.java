/** THE TAPE, TOKENS, FAULTS and what an E is worth, at every bound that "Terms" names. */
public final class FaultsTest {
  private static final Checks CHECKS = new Checks();
  private static final String REST = ";hands 1;tires 1;";
  private static final String LETTERS = "abcdefghijklmnopqrstuvwxyz";

  private static void due(String call, long got, long want) { CHECKS.due(call, got, want); }

  public static void main(String[] args) {
    everyByteAtFirst();
    everyByteWhereOneIsAsked();
    everyByteBehindOne();
    everyByteAtTheEnd();
    wordsAreAsLongAsCanBe();
    keysAndNames();
    numbers();
    blanks();
    theTapesBounds();
    endsTooEarly();
    firstOfTwoFaults();
    fiveOpen();
    whatEndsIsOpenNoMore();
    fiveOpenBehindEachSign();
    betweenOnesNothingOpens();
    oneComparisonAtMost();
    numbersOfTexts();
    aFaultLeavesNothing();
    thirtyTwoBits();
    truth();
    orderOfSigns();
    rowsOfSigns();
    whatWaits();
    CHECKS.end("FaultsTest");
  }

  private static int text(String text) { return Prison.text(new WallsOfPrisoners(), text); }

  private static void right(String text) { due("8: '" + text + "'", text(text), 1); }

  private static void fault(String text, int place) { due("8: FAULT of '" + text + "'", text(text), -100 - place); }

  /** The place of the one ! in a text, which is left out, is that of its FAULT. */
  private static void faultAt(String marked) { fault(marked.replace("!", ""), marked.indexOf('!')); }

  private static boolean blank(int letter) { return letter == 32 || letter == 10; }

  private static boolean digit(int letter) { return letter >= '0' && letter <= '9'; }

  private static void everyByteAtFirst() {
    for (int b = 0; b < 256; b++) {
      if (b != '!') due("8: byte " + b + " at first", text((char) b + "grips 1" + REST), blank(b) ? 1 : -100);
    }
    fault("!grips 1" + REST, 0);
  }

  private static void everyByteWhereOneIsAsked() {
    for (int b = 0; b < 256; b++) {
      boolean opens = b == '(' || b == '-';
      int want = digit(b) ? 1 : blank(b) || opens ? -107 : -106;
      due("8: byte " + b + " where a ONE is asked", text("grips " + (char) b + REST), want);
    }
  }

  private static void everyByteBehindOne() {
    for (int b = 0; b < 256; b++) {
      boolean goesOn = "+-*<=;".indexOf(b) >= 0;
      int want = digit(b) || blank(b) ? 1 : goesOn ? -108 : -107;
      due("8: byte " + b + " behind a ONE", text("grips 1" + (char) b + REST), want);
    }
  }

  private static void everyByteAtTheEnd() {
    for (int b = 0; b < 256; b++) {
      due("8: byte " + b + " at the end", text("grips 1" + REST + (char) b), blank(b) ? 1 : -124);
    }
  }

  private static void wordsAreAsLongAsCanBe() {
    String[] names = {"strength", "next", "number", "hour", "cold", "many"};
    for (String name : names) {
      right("grips " + name + REST);
      for (int n = 1; n < name.length(); n++) fault("grips " + name.substring(0, n) + REST, 6);
      for (char c : LETTERS.toCharArray()) fault("grips " + name + c + REST, 6);
      for (char c : LETTERS.toCharArray()) fault("grips " + c + name + REST, 6);
      fault("grips " + name.toUpperCase() + REST, 6);
      fault("grips " + name + name + REST, 6);
    }
    for (char c : LETTERS.toCharArray()) fault("grips " + c + REST, 6);
    fault("grips " + "z".repeat(154), 6);
    fault("grips notstrength" + REST, 6);
    fault("grips 1 andnot 1" + REST, 8);
    fault("grips 1 ora" + REST, 8);
    fault("grips no 1" + REST, 6);
    fault("grips 1 an 1" + REST, 8);
    fault("grips 1 o 1" + REST, 8);
    fault("gripsnot 1" + REST, 0);
  }

  private static void keysAndNames() {
    String[] keys = {"grips", "hands", "tires", "or", "and"};
    String[] words = {"strength", "next", "number", "hour", "cold", "many", "or", "and", "not"};
    for (String key : keys) fault("grips " + key + " 1" + REST, 6);
    for (String key : keys) fault("grips not " + key + REST, 10);
    for (String word : words) {
      fault(word + " 1;", 0);
      fault("grips 1;" + word + " 1;", 8);
      fault("grips 1;hands 1;" + word + " 1;", 16);
      if (!word.equals("or") && !word.equals("and")) fault("grips 1 " + word, 8);
    }
    String[] parts = {"grips", "hands", "tires"};
    for (int i = 0; i < 3; i++) {
      if (i != 0) fault(parts[i] + " 1;", 0);
      if (i != 1) fault("grips 1;" + parts[i] + " 1;", 8);
      if (i != 2) fault("grips 1;hands 1;" + parts[i] + " 1;", 16);
      fault("grips 1;hands 1;tires 1;" + parts[i], 24);
    }
  }

  private static void numbers() {
    for (String number : new String[] {"0", "9", "10", "99", "100", "999", "1000", "9999", "0000", "0009"}) right("grips " + number + REST);
    for (String number : new String[] {"10000", "00000", "99999", "00001", "123456", "4294967296"}) fault("grips " + number + REST, 6);
    fault("grips " + "9".repeat(154), 6);
    fault("grips 1+12345" + REST, 8);
    fault("grips 1 1" + REST, 8);
    fault("grips 1 12345" + REST, 8);
    fault("12345", 0);
    worth("0099", 99);
    worth("0000", 0);
    worth("9999-9930", 69);
  }

  private static void blanks() {
    right("grips1;hands1;tires1;");
    right("grips(1);hands(1);tires(1);");
    right("grips-1;hands-1;tires-1;");
    right("grips not1or 2and 3" + REST);
    right("grips 1or2and3" + REST);
    right("  grips  1  ;  hands  1  ;  tires  1  ;  ");
    right("\ngrips\n1\n;\nhands\n1\n;\ntires\n1\n;\n");
    right(" \n \n grips \n \n 1" + REST);
    fault("grips 1 1", 8);
    faultAt("grips 1234 !5" + REST);
    fault("grips stren gth" + REST, 6);
    fault("gr ips 1" + REST, 0);
    fault("grips\t1" + REST, 5);
    fault("grips\r1" + REST, 5);
    fault("grips" + (char) 160 + "1" + REST, 5);
  }

  private static void theTapesBounds() {
    String whole = "grips 1" + REST;
    right(whole + " ".repeat(160 - whole.length()));
    right("grips " + " ".repeat(160 - whole.length()) + "1" + REST);
    fault(whole + " ".repeat(159 - whole.length()) + "1", 159);
    fault("grips 1" + " ".repeat(153), 160);
    fault(" ".repeat(160), 160);
    fault(" ".repeat(159), 159);
    fault("", 0);
    fault("#", 0);
    WallsOfPrisoners x = new WallsOfPrisoners();
    Prison.feed(x, whole + " ".repeat(160 - whole.length()));
    due("7: 160 bytes", x.count(4), 160);
    due("7: FULL", x.feed('#'), -4);
    due("8: what was refused doesn't stand there", x.text(), 1);
    due("8: THE TAPE is empty then", x.count(4), 0);
    due("7: the first byte again", x.feed('#'), 1);
    due("8: by a FAULT, too", x.text(), -100);
    due("8: THE TAPE is empty by a FAULT", x.count(4), 0);
    due("8: an empty TAPE again", x.text(), -100);
    due("8: the next one is read from its own first byte", Prison.text(x, whole), 2);
  }

  /** A right text that is cut ends too early where its last TOKEN is whole, else that one is no WORD. */
  private static void endsTooEarly() {
    String whole = "grips (1<hour);hands -2;tires not 3;";
    int[] wordFrom = {0, 9, 15, 24, 30};
    int[] wordTill = {5, 13, 20, 29, 33};
    for (int n = 0; n < whole.length(); n++) {
      int want = n;
      for (int w = 0; w < wordFrom.length; w++) if (n > wordFrom[w] && n < wordTill[w]) want = wordFrom[w];
      fault(whole.substring(0, n), want);
    }
    right(whole);
    fault("grips 1 \n ", 10);
    fault("grips 1;hands 1;tires 1 ", 24);
    fault("grips 1;hands 1;tires 1;tires 1;", 24);
  }

  private static void firstOfTwoFaults() {
    faultAt("grips !; #" + REST);
    faultAt("grips 1 !12345 #");
    faultAt("grips !# 12345");
    faultAt("grips 1;!tires 1;hands #;");
    faultAt("grips !xyz or");
    faultAt("grips (((((!( #");
    faultAt("grips 1;hands !+;tires xyz;");
  }

  private static void fiveOpen() {
    right("grips (((((1)))))" + REST);
    faultAt("grips (((((!(1))))))" + REST);
    right("grips -----1" + REST);
    faultAt("grips -----!-1" + REST);
    right("grips not not not not not 1" + REST);
    faultAt("grips not not not not not !not 1" + REST);
    right("grips not(not(-1))" + REST);
    faultAt("grips not(not(-!(1)))" + REST);
    faultAt("grips not(not(-!-1))" + REST);
    right("grips ((((not 1))))" + REST);
    faultAt("grips (((((!not 1)))))" + REST);
    faultAt("grips (((((!-1)))))" + REST);
    faultAt("grips -----!(1)" + REST);
    faultAt("grips not not not not not !-1" + REST);
    faultAt("grips not not not not not !(1)" + REST);
    faultAt("grips 2*(((((1+!-1)))))" + REST);
    faultAt("grips (((((1+!(1))))))" + REST);
    faultAt("grips 1;hands (((((!(1))))));tires 1;");
    faultAt("grips 1;hands 1;tires -----!-1;");
    right("grips (((((strength)))))" + REST);
    faultAt("grips (((((!))))) " + REST);
    faultAt("grips (((((!#)))))" + REST);
  }

  private static void whatEndsIsOpenNoMore() {
    right("grips (((((1)))))+(((((1)))))*(((((1)))))" + REST);
    right("grips (((((1)))))<(((((1)))))" + REST);
    right("grips -----1+-----1" + REST);
    right("grips -----1*-----1" + REST);
    right("grips -(1)+(((((1)))))" + REST);
    right("grips -1<(((((1)))))" + REST);
    faultAt("grips -((((!(1)))))" + REST);
    right("grips not 1 or not not not not not 1" + REST);
    right("grips not 1 and not not not not not 1" + REST);
    right("grips not 1 and (((((1)))))" + REST);
    faultAt("grips not 1+((((!(1)))))" + REST);
    faultAt("grips not 1*((((!(1)))))" + REST);
    faultAt("grips not 1=((((!(1)))))" + REST);
    faultAt("grips not 1 - ----!-1" + REST);
    right("grips not 1+((((1))))" + REST);
    right("grips (not 1)+(((((1)))))" + REST);
    right("grips (not 1)or(((((1)))))" + REST);
    faultAt("grips (not 1+(((!(1)))))" + REST);
    right("grips (((((1)))));hands (((((1)))));tires (((((1)))));");
    right("grips -----1;hands -----1;tires not not not not not 1;");
    right("grips (-1)*(-(-(1)))" + REST);
  }

  /** Behind the first sign, and behind the third one of a row, as many may be opened as ahead of it. */
  private static void fiveOpenBehindEachSign() {
    for (String sign : new String[] {" or ", " and ", "+", "-", "*", "<", "="}) {
      boolean inRows = !sign.equals("<") && !sign.equals("=");
      for (int open = 0; open <= 5; open++) {
        for (String ahead : inRows ? new String[] {"1" + sign, "1" + sign + "1" + sign + "1" + sign} : new String[] {"1" + sign}) {
          String from = "grips " + "(".repeat(open) + ahead + "(".repeat(5 - open);
          String till = ")".repeat(5) + REST;
          right(from + "2" + till);
          faultAt(from + "!(2)" + till);
          faultAt(from + "!-2" + till);
        }
      }
    }
  }

  private static void betweenOnesNothingOpens() {
    right("grips (((((1-1)))))" + REST);
    right("grips (((((1-1-1-1-1-1-1-1)))))" + REST);
    right("grips 1-1-1-1-1-1-1-1" + REST);
    right("grips -----1-1" + REST);
    right("grips (((((1<1 and 1 or 1)))))" + REST);
    right("grips not not not not not 1-1" + REST);
    faultAt("grips (((((1-!-1)))))" + REST);
    right("grips ((((1--1))))" + REST);
  }

  private static void oneComparisonAtMost() {
    for (String sign : new String[] {"<", "="}) {
      for (String other : new String[] {"<", "="}) {
        faultAt("grips 1" + sign + "2!" + other + "3" + REST);
        faultAt("grips not 1" + sign + "2!" + other + "3" + REST);
        right("grips (1" + sign + "2)" + other + "3" + REST);
        right("grips 1" + sign + "(2" + other + "3)" + REST);
        right("grips 1" + sign + "2 and 2" + other + "3" + REST);
        right("grips 1" + sign + "2 or 2" + other + "3" + REST);
        right("grips not 1" + sign + "2 or not 2" + other + "3" + REST);
      }
      faultAt("grips 1" + sign + "!not 2" + REST);
      faultAt("grips !" + sign + "2" + REST);
      faultAt("grips 1" + sign + "!;");
    }
    faultAt("grips 1+!not 2" + REST);
    faultAt("grips 1*!not 2" + REST);
    faultAt("grips -!not 2" + REST);
    faultAt("grips 1 !not" + REST);
    faultAt("grips 1 !(2)" + REST);
    faultAt("grips 1!)" + REST);
    faultAt("grips (1)!)" + REST);
    faultAt("grips (!)" + REST);
    faultAt("grips (1!;");
    faultAt("grips 1;hands 1;!;");
    faultAt("grips 1;!;");
    faultAt("!;grips 1" + REST);
  }

  private static void numbersOfTexts() {
    WallsOfPrisoners x = new WallsOfPrisoners();
    x.man(0, 0, 50);
    x.man(0, 0, 60);
    due("TEXT 0 is THE RULE at first", x.count(5), 0);
    due("TEXT 0 is the one TEXT at first", x.count(3), 1);
    x.set(1, 0, 8);
    due("TEXT 0: grips strength - cold", x.grips(0, 1), 42);
    due("TEXT 0: hands 3", x.hands(0, 50), 47);
    due("TEXT 0: tires 1", x.told(0, 6), 1);
    due("9: no TEXT 1", x.force(1), -2);
    due("8: by a FAULT there is no TEXT more", Prison.text(x, "grips 7"), -107);
    due("9: no TEXT 1 still", x.force(1), -2);
    for (int i = 1; i < 6; i++) {
      due("8: TEXTS ahead", x.count(3), i);
      due("8: its number", Prison.text(x, "grips " + i + REST), i);
      due("8: THE RULE stays", x.count(5), 0);
    }
    due("8: 6 TEXTS", x.count(3), 6);
    due("8: FULL, of an empty TAPE", x.text(), -4);
    due("9: which was", x.force(5), 0);
    due("9: it is THE RULE", x.grips(0, 1), 5);
    due("9: the same one", x.force(5), 5);
    due("9: no TEXT 6", x.force(6), -2);
    due("9: a refusal changes nothing", x.count(5), 5);
    due("9: TEXT 0 again", x.force(0), 5);
    due("9: TEXT 0 is as it was", x.grips(0, 1), 42);
  }

  /** A TEXT behind one that was none: nothing of that is read with it, however far that had come. */
  private static void aFaultLeavesNothing() {
    String[] none = {"grips", "grips 7 7", "grips not 7;hands -2 x", "grips 1;hands 1;tires -5 x", "grips 1;hands 1;tires not 5;x",
        "grips 1;hands 1;tires 9-5+3*2<1;1", "grips 1+1+1;hands 2*2*2;tires 3 or 3 or 3 and"};
    for (String ahead : none) {
      WallsOfPrisoners x = Prison.of(50, 40);
      due("8: '" + ahead + "' is none", Prison.text(x, ahead) <= -100 ? 1 : 0, 1);
      due("8: a TEXT behind '" + ahead + "'", Prison.text(x, "grips 30;hands 3;tires 5;"), 1);
      x.force(1);
      due("8: how hard, behind '" + ahead + "'", x.grips(0, 1), 30);
      due("8: how much is handed on, behind '" + ahead + "'", x.hands(0, 50), 47);
      due("8: how much is SPENT, behind '" + ahead + "'", x.told(0, 6), 5);
      x.force(0);
      due("8: TEXT 0, behind '" + ahead + "'", x.grips(0, 1), 50);
    }
  }

  /** How hard a MAN grips by an E; STRENGTH 30, of the other one 50, NUMBER 3, HOUR 5, COLD 7, three stand there. */
  private static void worth(String e, int want) {
    WallsOfPrisoners x = Prison.of(30, 50, 1);
    x.set(2, 0, 3);
    x.set(0, 0, 5);
    x.set(1, 0, 7);
    due("8: text() of " + e, Prison.text(x, "grips " + e + REST), 1);
    x.force(1);
    due("8: " + e, x.grips(0, 1), want);
  }

  /** 9999*9999*21+9999*4790+8416 is the greatest int. */
  private static void thirtyTwoBits() {
    String most = "(9999*9999*21+9999*4790+8416)";
    worth("0<" + most, 1);
    worth(most + "<0", 0);
    worth(most + "+1<0", 1);
    worth("0<" + most + "+1", 0);
    worth("-" + most + "-1<0", 1);
    worth("-" + most + "-2<0", 0);
    worth("-" + most + "-2=" + most, 1);
    worth("-(" + most + "+1)<0", 1);
    worth("-(" + most + "+1)=" + most + "+1", 1);
    worth(most + "*2+7", 5);
    worth("(" + most + "+1)*2+7", 7);
    worth("(" + most + "+1)*3=" + most + "+1", 1);
    worth(most + "+1-" + most, 1);
    worth(most + "<" + most, 0);
    worth(most + "+1<" + most, 1);
    worth(most + "+1", 0);
    worth(most, 99);
  }

  private static void truth() {
    String[] untrue = {"0", "0000", "1-1", "0*5", "3<2", "3=2", "not 1", "-0"};
    String[] isTrue = {"1", "2", "99", "9999", "-1", "-99", "2<3", "3=3", "not 0", "0-1"};
    for (String a : untrue) {
      worth("20+(not " + a + ")", 21);
      for (String b : untrue) {
        worth("20+(" + a + " or " + b + ")", 20);
        worth("20+(" + a + " and " + b + ")", 20);
      }
      for (String b : isTrue) {
        worth("20+(" + a + " or " + b + ")", 21);
        worth("20+(" + b + " or " + a + ")", 21);
        worth("20+(" + a + " and " + b + ")", 20);
        worth("20+(" + b + " and " + a + ")", 20);
      }
    }
    for (String a : isTrue) {
      worth("20+(not " + a + ")", 20);
      for (String b : isTrue) {
        worth("20+(" + a + " or " + b + ")", 21);
        worth("20+(" + a + " and " + b + ")", 21);
      }
    }
  }

  private static void orderOfSigns() {
    worth("1 or 1 and 0", 1);
    worth("0 and 1 or 1", 1);
    worth("not 0 or 1", 1);
    worth("not 1 or 1", 1);
    worth("not 1 and 0", 0);
    worth("not 0 and 0", 0);
    worth("not 2=3", 1);
    worth("not 3=3", 0);
    worth("(not 3)=0", 1);
    worth("1+2<4", 1);
    worth("4<1+2", 0);
    worth("2*3=3*2", 1);
    worth("2+3*4", 14);
    worth("2*3+4", 10);
    worth("20-3-4", 13);
    worth("20-3+4", 21);
    worth("-2*-3", 6);
    worth("-2+9", 7);
    worth("5- -3", 8);
    worth("5---3", 2);
    worth("-(2-9)", 7);
    worth("not not 7", 1);
    worth("not not not 7", 0);
    worth("--7", 7);
    worth("(2<3)<2", 1);
    worth("3<(2<3)", 0);
    worth("strength", 30);
    worth("next", 50);
    worth("number", 3);
    worth("hour", 5);
    worth("cold", 7);
    worth("many", 3);
  }

  /** Rows of one sign, up to as many as THE TAPE holds. */
  private static void rowsOfSigns() {
    for (int n = 1; n <= 60; n++) {
      worth("0" + "+1".repeat(n), n);
      worth("90" + "-1".repeat(n), 90 - n);
      worth("7" + "*1".repeat(n), 7);
      worth("1" + "*2".repeat(n) + "=0", n > 31 ? 1 : 0);
      if (n <= 33) worth("0" + "or 0".repeat(n), 0);
      if (n <= 33) worth("0" + "or 0".repeat(n - 1) + "or 1", 1);
      if (n <= 26) worth("1" + "and 1".repeat(n), 1);
      if (n <= 26) worth("1" + "and 1".repeat(n - 1) + "and 0", 0);
    }
  }

  /** So many ahead of what is told first wait for it: five more in each ( . */
  private static void whatWaits() {
    String five = "0or 1and 0<0+2*";
    for (int open = 0; open <= 5; open++) {
      worth((five + "(").repeat(open) + five + "9" + ")".repeat(open), 1);
      worth((five + "(").repeat(open) + five + "0" + ")".repeat(open), 0);
    }
    worth("30+(7-(6-(5-(4-(3-2*1)))))", 33);
    worth("50-(40-(30-(20-(10-(5-1)))))", 26);
  }
}
