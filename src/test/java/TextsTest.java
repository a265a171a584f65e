/** The document's sentences on edges: "Texts" and the promises 15 and 28 to 30. */
public final class TextsTest {
  private static final int NO_SUCH = -1, BAD_VALUE = -2, BAD_TEXT = -3, TOO_MANY = -4, NOT_POSSIBLE = -5, NONE = -6;

  private TextsTest() {
  }

  public static void main(String[] args) {
    sixtyCharacters();
    ordersBetweenSemicolons();
    kindsOfOrders();
    spansBetweenPluses();
    lampNumbers();
    levelNumbers();
    cueDigits();
    tickNumbers();
    noLeadingZeros();
    spans();
    spansDownwards();
    spansOfOneLamp();
    ordersInTheirOrder();
    firstWrongCharacter();
    everyCharacterAtEveryPlace();
    greatNumbers();
    endsTooEarly();
    emptyText();
    carryOutOneAfterTheOther();
    carryOutUpToAnError();
    carryOutUpToALampThatIsNot();
    carryOutEmptiesThePad();
    carryOutIsOneChange();
    carryOutReturns();
    carryOutErrors();
    carryOutOfAFault();
    carryOutOfOnePremiere();
    putOrder();
    putEndsAtZero();
    putCodes();
    putNothing();
    putBitsAbove();
    putTooMany();
    wipe();
    faultNone();
    faultLeavesThePad();
    textsAreNoChanges();
    Check.end();
  }

  private static void due(String call, long got, long want) {
    Check.due(call, got, want);
  }

  private static PhaseLights with(String text) {
    PhaseLights x = Shows.rig(12, 100);
    due("the last put of " + text, Check.text(x, text), text.length());
    return x;
  }

  private static void fault(String text, int want) {
    due("fault() of " + text, with(text).fault(), want);
  }

  private static void good(String... texts) {
    for (String text : texts) fault(text, NONE);
  }

  /** The wanted levels of premiere 0, told one after the other. */
  private static String wanted(PhaseLights x) {
    StringBuilder told = new StringBuilder();
    for (int i = 0; i < x.of(0, 2); i++) told.append(i == 0 ? "" : " ").append(x.lamp(0, i, 2));
    return told.toString();
  }

  // ---- the grammar

  private static void sixtyCharacters() {
    Check.sentence("Texts", "The pad is a text of at most 60 characters");
    PhaseLights x = with("0@1;0@1;0@1;0@1;0@1;0@1;0@1;0@1;0@1;0@1;0@1;0@1;0@1;0@1;11@");
    due("count(7)", x.count(7), 59);
    due("fault()", x.fault(), 59);
    due("put of two to 59", x.put(Check.packed("10")), TOO_MANY);
    due("put of one to 59", x.put('7'), 60);
    due("fault()", x.fault(), NONE);
    due("put of one to 60", x.put('1'), TOO_MANY);
    due("count(7)", x.count(7), 60);
    due("carryOut(0)", x.carryOut(0), 15);
    Check.same("wanted", wanted(x), "1 0 0 0 0 0 0 0 0 0 0 7");
  }

  private static void ordersBetweenSemicolons() {
    Check.sentence("Texts", "text = order { \";\" order }");
    good("x", "x;x", "x;x;x", "g0;g0", "x;0@1;r0/1;g0;x");
    fault(";", 0);
    fault(";x", 0);
    fault("x;", 2);
    fault("x;;x", 2);
    fault("xx", 1);
    fault("x,x", 1);
    fault("g0g0", 2);
    fault("r0/1g0", 4);
    fault("r0/50g0", 5);
    fault("0@1g0", 3);
    fault("0@1x", 3);
    PhaseLights x = with("x;x;x;x;x;x;x;x;x;x;x;x;x;x;x;x;x;x;x;x;x;x;x;x;x;x;x;x;x;x");
    due("count(7)", x.count(7), 59);
    due("fault()", x.fault(), NONE);
    due("carryOut(0), thirty orders", x.carryOut(0), 30);
  }

  private static void kindsOfOrders() {
    Check.sentence("Texts", "order = lamps \"@\" level | \"r\" cue \"/\" ticks | \"g\" cue | \"x\"");
    good("0@0", "r0/1", "g0", "x");
    String[] wrong = {"a", "@", "/", ">", "+", "R0/1", "G0", "X", "y", "w", "s", "q", "f", "h", "!", "~", "&", "-1@1"};
    for (String text : wrong) fault(text, 0);
    fault("0/1", 1);
    fault("r0@1", 2);
    fault("r/1", 1);
    fault("g/", 1);
    fault("g@", 1);
    fault("g0/1", 2);
    fault("x0", 1);
    fault("x@1", 1);
    fault("rg", 1);
    fault("gr", 1);
  }

  private static void spansBetweenPluses() {
    Check.sentence("Texts", "lamps = span { \"+\" span }, span = lamp [ \">\" lamp ]");
    good("0+1@5", "0>1+2>3@5", "0+1>2+3@5", "11+10+9@5", "3+3+3@5");
    good("0+1+2+3+4+5+6+7+8+9+0+1+2+3+4+5+6+7+8+9+0+1+2+3+4+5+6+7+8@7");
    fault("0++1@5", 2);
    fault("+0@5", 0);
    fault("0>@5", 2);
    fault(">0@5", 0);
    fault("0>1>2@5", 3);
    fault("0>>1@5", 2);
    fault("0+>1@5", 2);
    fault("0+@5", 2);
    fault("0@5+1@5", 3);
    fault("0@5>1", 3);
    fault("0;1@5", 1);
    fault("0>1;2@5", 3);
    fault("0+g1", 2);
    fault("0+x", 2);
  }

  private static void lampNumbers() {
    Check.sentence("Texts", "A lamp is a number from 0 to 11");
    for (int lamp = 0; lamp <= 11; lamp++) good(lamp + "@5", lamp + ">0@5", "0>" + lamp + "@5", "0+" + lamp + "@5");
    for (int lamp = 12; lamp <= 19; lamp++) {
      fault(lamp + "@5", 1);
      fault("0>" + lamp + "@5", 3);
      fault("0+" + lamp + "@5", 3);
    }
    fault("20@5", 1);
    fault("99@5", 1);
    fault("100@5", 2);
    fault("110@5", 2);
    fault("0>110@5", 4);
    PhaseLights x = with("11@100");
    due("carryOut(0)", x.carryOut(0), 1);
    due("lamp(0, 11, 2)", x.lamp(0, 11, 2), 100);
  }

  private static void levelNumbers() {
    Check.sentence("Texts", "a level one from 0 to 100");
    for (int level = 0; level <= 100; level++) good("0@" + level);
    for (int level = 101; level <= 109; level++) fault("0@" + level, 4);
    fault("0@110", 4);
    fault("0@200", 4);
    fault("0@999", 4);
    fault("0@1000", 5);
    fault("0@-1", 2);
    for (int level : new int[] {0, 1, 9, 10, 99, 100}) {
      PhaseLights x = with("3@" + level);
      due("carryOut(0) of level " + level, x.carryOut(0), 1);
      due("lamp(0, 3, 2)", x.lamp(0, 3, 2), level);
    }
  }

  private static void cueDigits() {
    Check.sentence("Texts", "a cue a digit from 0 to 7");
    for (int cue = 0; cue <= 7; cue++) good("g" + cue, "r" + cue + "/1");
    fault("g8", 1);
    fault("g9", 1);
    fault("r8/1", 1);
    fault("r9/1", 1);
    fault("g10", 2);
    fault("g07", 2);
    fault("g00", 2);
    fault("r00/1", 2);
    fault("r10/1", 2);
    for (int cue = 0; cue <= 7; cue++) {
      PhaseLights x = with("r" + cue + "/9;g" + cue);
      due("carryOut(0) of cue " + cue, x.carryOut(0), 2);
      due("of(0, 3)", x.of(0, 3), 1 << cue);
    }
  }

  private static void tickNumbers() {
    Check.sentence("Texts", "ticks a number from 1 to 50");
    for (int ticks = 1; ticks <= 50; ticks++) good("r0/" + ticks);
    fault("r0/0", 3);
    for (int ticks = 51; ticks <= 99; ticks++) fault("r0/" + ticks, 4);
    fault("r0/100", 5);
    fault("r0/500", 5);
    fault("r0/", 3);
    for (int ticks : new int[] {1, 9, 10, 49, 50}) {
      PhaseLights x = with("r4/" + ticks + ";g4");
      due("carryOut(0) of ticks " + ticks, x.carryOut(0), 2);
      due("cue(0, 4, 1)", x.cue(0, 4, 1), ticks);
      due("of(0, 4)", x.of(0, 4), ticks);
    }
  }

  private static void noLeadingZeros() {
    Check.sentence("Texts", "numbers have no leading zeros");
    fault("00@5", 1);
    fault("01@5", 1);
    fault("011@5", 1);
    fault("0>00@5", 3);
    fault("0>01@5", 3);
    fault("0+09@5", 3);
    fault("0@00", 3);
    fault("0@05", 3);
    fault("0@0100", 3);
    fault("r0/01", 3);
    fault("r0/00", 3);
    good("0@0", "0>0@0", "10@10", "r0/10");
  }

  private static void spans() {
    Check.sentence("Texts", "A span are the lamps from the first one to the second one, all with them.");
    PhaseLights x = with("3>6@5");
    due("carryOut(0)", x.carryOut(0), 1);
    Check.same("wanted", wanted(x), "0 0 0 5 5 5 5 0 0 0 0 0");
    x = with("0>11@5");
    due("carryOut(0)", x.carryOut(0), 1);
    Check.same("wanted", wanted(x), "5 5 5 5 5 5 5 5 5 5 5 5");
    x = with("10>11@5");
    due("carryOut(0)", x.carryOut(0), 1);
    Check.same("wanted", wanted(x), "0 0 0 0 0 0 0 0 0 0 5 5");
    x = with("0>1+3>4+11@5");
    due("carryOut(0)", x.carryOut(0), 1);
    Check.same("wanted", wanted(x), "5 5 0 5 5 0 0 0 0 0 0 5");
  }

  private static void spansDownwards() {
    Check.sentence("Texts", "to the second one (which can be the lower one)");
    PhaseLights x = with("6>3@5");
    due("carryOut(0)", x.carryOut(0), 1);
    Check.same("wanted", wanted(x), "0 0 0 5 5 5 5 0 0 0 0 0");
    x = with("11>0@5");
    due("carryOut(0)", x.carryOut(0), 1);
    Check.same("wanted", wanted(x), "5 5 5 5 5 5 5 5 5 5 5 5");
    x = with("1>0@5");
    due("carryOut(0)", x.carryOut(0), 1);
    Check.same("wanted", wanted(x), "5 5 0 0 0 0 0 0 0 0 0 0");
    PhaseLights y = Shows.rig(3, 100);
    Check.text(y, "3>0@5");
    due("carryOut(0), its first lamp is not there", y.carryOut(0), 0);
    Check.same("wanted", wanted(y), "0 0 0");
  }

  private static void spansOfOneLamp() {
    Check.sentence("Texts", "from the first one to the second one, all with them (both are the same)");
    for (int lamp : new int[] {0, 5, 11}) {
      PhaseLights x = with(lamp + ">" + lamp + "@7");
      due("carryOut(0)", x.carryOut(0), 1);
      for (int i = 0; i < 12; i++) due("lamp(0, " + i + ", 2)", x.lamp(0, i, 2), i == lamp ? 7 : 0);
    }
    PhaseLights x = with("5@7");
    due("carryOut(0), without a second one", x.carryOut(0), 1);
    Check.same("wanted", wanted(x), "0 0 0 0 0 7 0 0 0 0 0 0");
  }

  private static void ordersInTheirOrder() {
    Check.sentence("Texts", "The orders are those of at() for each lamp of the spans in their order, "
        + "record(), go() and reset().");
    PhaseLights x = with("0>2@10;1@20;r0/5;0+2@30;r1/6;g0;1@40");
    due("carryOut(0)", x.carryOut(0), 7);
    Check.same("wanted", wanted(x), "30 40 30 0 0 0 0 0 0 0 0 0");
    due("inCue(0, 0, 0)", x.inCue(0, 0, 0), 10);
    due("inCue(0, 0, 1)", x.inCue(0, 0, 1), 20);
    due("inCue(0, 1, 1)", x.inCue(0, 1, 1), 20);
    due("inCue(0, 1, 2)", x.inCue(0, 1, 2), 30);
    due("of(0, 4)", x.of(0, 4), 5);
    x.tick(5);
    due("lamp(0, 1, 3)", x.lamp(0, 1, 3), 20);
    x.set(PhaseLights.CAP, 500);
    x.set(PhaseLights.HOLD, 1);
    for (int i = 0; i < 12; i++) x.patch(0, i, 4);
    Check.text(x, "0>11@100;r2/1;g2");
    x.carryOut(0);
    due("tick(1)", x.tick(1), 1);
    Check.text(x, "x");
    due("carryOut(0) of a reset", x.carryOut(0), 1);
    due("of(0, 6)", x.of(0, 6), 0);
  }

  // ---- the fault

  private static void firstWrongCharacter() {
    Check.sentence("Texts", "The fault is the index of the first character that cannot stand at its place "
        + "when the text is read from left to right");
    String text = "0>3+7@100;r5/41;g5;x";
    good(text);
    for (int i = 0; i < text.length(); i++) fault(text.substring(0, i) + "!" + text.substring(i), i);
    fault("!!", 0);
    fault("x!;!", 1);
    fault("0@5;!@5;!", 4);
    fault("0@5!", 3);
  }

  /** What may follow each of these beginnings; each other character is the fault. */
  private static void everyCharacterAtEveryPlace() {
    Check.sentence("Texts", "the first character that cannot stand at its place");
    String[][] next = {
      {"", "0123456789rgx"}, {"0", "@>+"}, {"1", "01@>+"}, {"2", "@>+"}, {"9", "@>+"}, {"10", "@>+"}, {"11", "@>+"},
      {"0>", "0123456789"}, {"0>0", "@+"}, {"0>1", "01@+"}, {"0>11", "@+"}, {"0+", "0123456789"}, {"0+1", "01@>+"},
      {"0@", "0123456789"}, {"0@0", ";"}, {"0@1", "0123456789;"}, {"0@9", "0123456789;"}, {"0@10", "0;"},
      {"0@11", ";"}, {"0@99", ";"}, {"0@100", ";"}, {"r", "01234567"}, {"r7", "/"}, {"r0/", "123456789"},
      {"r0/1", "0123456789;"}, {"r0/4", "0123456789;"}, {"r0/5", "0;"}, {"r0/6", ";"}, {"r0/9", ";"}, {"r0/10", ";"},
      {"r0/50", ";"}, {"g", "01234567"}, {"g0", ";"}, {"g1", ";"}, {"x", ";"}, {"x;", "0123456789rgx"}
    };
    for (String[] pair : next) {
      PhaseLights x = new PhaseLights();
      for (char c = 33; c <= 126; c++) {
        Check.text(x, pair[0] + c);
        boolean fits = pair[1].indexOf(c) >= 0;
        int fault = x.fault();
        due("whether " + c + " can follow " + pair[0] + " (" + fault + ")",
            fault == pair[0].length() ? 0 : 1, fits ? 1 : 0);
        x.wipe();
      }
    }
  }

  private static void greatNumbers() {
    Check.sentence("Texts", "also of a digit by which a number would be too great");
    fault("12", 1);
    fault("19", 1);
    fault("20", 1);
    fault("111", 2);
    fault("0>12", 3);
    fault("0@101", 4);
    fault("0@1001", 5);
    fault("0@1000", 5);
    fault("g8", 1);
    fault("r8", 1);
    fault("r0/51", 4);
    fault("r0/60", 4);
    fault("r0/501", 5);
    fault("0@5;12@5", 5);
    fault("r0/1;r0/51", 9);
  }

  private static void endsTooEarly() {
    Check.sentence("Texts", "if there is none and the text ends too early, it is the length of the text");
    String text = "0>3+7@100;r5/41;g5;x";
    for (int i = 1; i < text.length(); i++) {
      boolean order = i == 7 || i == 8 || i == 9 || i == 14 || i == 15 || i == 18;
      fault(text.substring(0, i), order ? NONE : i);
    }
    String sixty = "0@100;0@100;0@100;0@100;0@100;0@100;0@100;0@100;0@100;0@100;";
    fault(sixty, 60);
    fault(sixty.substring(0, 59), NONE);
    fault(sixty.substring(0, 58) + "+1", 58);
    fault("x;" + sixty.substring(0, 58), NONE);
  }

  private static void emptyText() {
    Check.sentence("Texts", "(also if it is empty)");
    PhaseLights x = new PhaseLights();
    due("fault() of a new object", x.fault(), 0);
    due("carryOut(0) of a new object", x.carryOut(0), BAD_TEXT);
    Check.text(x, "g");
    due("fault()", x.fault(), 1);
    x.wipe();
    due("fault() behind wipe()", x.fault(), 0);
    Check.text(x, "x");
    x.carryOut(0);
    due("fault() behind carryOut(0)", x.fault(), 0);
    due("carryOut(0) behind carryOut(0)", x.carryOut(0), BAD_TEXT);
  }

  // ---- carryOut

  private static void carryOutOneAfterTheOther() {
    Check.sentence("Promise 15", "Carries the orders of the pad out at the desk of a premiere, one after the other");
    PhaseLights x = with("0@100;r0/2;g0;0@7;r0/9");
    due("carryOut(0)", x.carryOut(0), 5);
    due("of(0, 4)", x.of(0, 4), 2);
    due("cue(0, 0, 1)", x.cue(0, 0, 1), 9);
    x.tick(2);
    due("lamp(0, 0, 3), by the cue as it was", x.lamp(0, 0, 3), 100);
    x = with("g0;r0/2");
    due("carryOut(0), g0 is ahead of r0", x.carryOut(0), 0);
    due("of(0, 3)", x.of(0, 3), 0);
    x = with("r0/2;g0");
    due("carryOut(0), r0 is ahead of g0", x.carryOut(0), 2);
  }

  private static void carryOutUpToAnError() {
    Check.sentence("Promise 15", "up to the first one that returns an error");
    PhaseLights x = with("0@1;r0/1;g1;0@9;r1/1;g1;x");
    due("carryOut(0), g1 is not possible", x.carryOut(0), 2);
    due("lamp(0, 0, 2)", x.lamp(0, 0, 2), 1);
    due("of(0, 3)", x.of(0, 3), 1);
    due("of(0, 4)", x.of(0, 4), 0);
    Check.text(x, "g0;x;g7");
    due("carryOut(0), the last is not possible", x.carryOut(0), 2);
    due("of(0, 4)", x.of(0, 4), 1);
  }

  private static void carryOutUpToALampThatIsNot() {
    Check.sentence("Promise 15", "Lamps of an order that are ahead of the one that does not exist "
        + "keep their new levels.");
    PhaseLights x = Shows.rig(3, 100);
    Check.text(x, "0>3@50;0@9");
    due("carryOut(0), no lamp 3", x.carryOut(0), 0);
    Check.same("wanted", wanted(x), "50 50 50");
    Check.text(x, "1+3+0@60");
    due("carryOut(0), no lamp 3", x.carryOut(0), 0);
    Check.same("wanted", wanted(x), "50 60 50");
    Check.text(x, "2>0+11@70");
    due("carryOut(0), no lamp 11", x.carryOut(0), 0);
    Check.same("wanted", wanted(x), "70 70 70");
    Check.text(x, "0@1;11>0@80");
    due("carryOut(0), no lamp 11", x.carryOut(0), 1);
    Check.same("wanted", wanted(x), "1 70 70");
    Check.text(x, "1>2@5;2>4@6");
    due("carryOut(0), no lamp 3", x.carryOut(0), 1);
    Check.same("wanted", wanted(x), "1 5 6");
    Check.text(x, "0@1");
    due("carryOut(1), no lamps at all", x.carryOut(1), 0);
  }

  private static void carryOutEmptiesThePad() {
    Check.sentence("Promise 15", "and empties the pad");
    PhaseLights x = with("x;x");
    due("carryOut(0)", x.carryOut(0), 2);
    due("count(7)", x.count(7), 0);
    due("wipe()", x.wipe(), 0);
    Check.text(x, "g5;x;x;x");
    due("carryOut(0), none is carried out", x.carryOut(0), 0);
    due("count(7)", x.count(7), 0);
    x = with("0@100;0@100;0@100;0@100;0@100;0@100;0@100;0@100;0@100;11@100");
    due("carryOut(0), 60 characters", x.carryOut(0), 10);
    due("count(7)", x.count(7), 0);
    due("put of a new one", x.put('x'), 1);
  }

  private static void carryOutIsOneChange() {
    Check.sentence("Promise 15", "This is a change (one, with all of them; also if none is carried out).");
    PhaseLights x = Shows.rig(2, 100);
    Check.text(x, "0@1;1@2;r0/3;g0");
    int before = x.count(8);
    due("carryOut(0)", x.carryOut(0), 4);
    due("count(8)", x.count(8), before + 1);
    due("undo()", x.undo(), before);
    Check.same("wanted", wanted(x), "0 0");
    due("of(0, 3)", x.of(0, 3), 0);
    due("of(0, 4)", x.of(0, 4), 0);
    Check.text(x, "g0");
    due("carryOut(0), none is carried out", x.carryOut(0), 0);
    due("count(8)", x.count(8), before + 1);
    Check.text(x, "0>5@9");
    due("carryOut(0), a part of one", x.carryOut(0), 0);
    due("count(8)", x.count(8), before + 2);
    Check.same("wanted", wanted(x), "9 9");
    x.undo();
    Check.same("wanted behind undo", wanted(x), "0 0");
  }

  private static void carryOutReturns() {
    Check.sentence("Promise 15", "Returns how many orders were carried out");
    due("carryOut(0) of one", with("x").carryOut(0), 1);
    due("carryOut(0) of a span, one order", with("0>11+3>5@8").carryOut(0), 1);
    due("carryOut(0) of two", with("0>11+3>5@8;x").carryOut(0), 2);
    due("carryOut(0) of none", with("g0").carryOut(0), 0);
    due("carryOut(0) of none, others behind it", with("g0;x;x;x").carryOut(0), 0);
  }

  private static void carryOutErrors() {
    Check.sentence("Promise 15", "NO_SUCH if there is no such premiere; BAD_TEXT if the pad has a fault");
    PhaseLights x = with("x");
    due("carryOut(-1)", x.carryOut(-1), NO_SUCH);
    due("carryOut(3)", x.carryOut(3), NO_SUCH);
    due("count(7), the pad stays", x.count(7), 1);
    due("carryOut(2)", x.carryOut(2), 1);
    due("carryOut(-1) of nothing", x.carryOut(-1), NO_SUCH);
    due("carryOut(3) of nothing", x.carryOut(3), NO_SUCH);
    due("carryOut(0) of nothing", x.carryOut(0), BAD_TEXT);
    Check.text(x, "x;");
    due("carryOut(3) of a fault", x.carryOut(3), NO_SUCH);
    due("carryOut(2) of a fault", x.carryOut(2), BAD_TEXT);
  }

  private static void carryOutOfAFault() {
    Check.sentence("Promise 15", "BAD_TEXT if the pad has a fault (then it stays)");
    PhaseLights x = with("0@9;1@101");
    int before = x.count(8);
    due("carryOut(0)", x.carryOut(0), BAD_TEXT);
    due("count(7)", x.count(7), 9);
    due("count(8)", x.count(8), before);
    due("lamp(0, 0, 2), nothing is carried out", x.lamp(0, 0, 2), 0);
    due("fault()", x.fault(), 8);
    x.wipe();
    Check.text(x, "0@9;");
    due("carryOut(0), it ends too early", x.carryOut(0), BAD_TEXT);
    Check.text(x, "1@8");
    due("carryOut(0), when it goes on", x.carryOut(0), 2);
    due("lamp(0, 0, 2)", x.lamp(0, 0, 2), 9);
    due("lamp(0, 1, 2)", x.lamp(0, 1, 2), 8);
  }

  private static void carryOutOfOnePremiere() {
    Check.sentence("Promise 15", "at the desk of a premiere");
    PhaseLights x = new PhaseLights();
    x.type(100, 1, 1);
    for (int p = 0; p < 3; p++) x.hang(p, 0, 0);
    Check.text(x, "0@5;r1/2;g1");
    due("carryOut(2)", x.carryOut(2), 3);
    for (int p = 0; p < 3; p++) {
      due("lamp(" + p + ", 0, 2)", x.lamp(p, 0, 2), p == 2 ? 5 : 0);
      due("of(" + p + ", 3)", x.of(p, 3), p == 2 ? 2 : 0);
      due("of(" + p + ", 4)", x.of(p, 4), p == 2 ? 2 : 0);
    }
    Check.text(x, "g1");
    due("carryOut(0), not recorded there", x.carryOut(0), 0);
  }

  // ---- put, wipe, fault

  private static void putOrder() {
    Check.sentence("Promise 28", "its lowest 8 bits are the last character, the next 8 bits the one before, and so on");
    PhaseLights x = Shows.rig(12, 100);
    due("put of 1", x.put('1'), 1);
    due("put of @23", x.put('@' << 16 | '2' << 8 | '3'), 4);
    due("carryOut(0)", x.carryOut(0), 1);
    due("lamp(0, 1, 2)", x.lamp(0, 1, 2), 23);
    due("put of eight", x.put(Check.packed("3@45;4@6")), 8);
    due("put of one", x.put('7'), 9);
    due("carryOut(0)", x.carryOut(0), 2);
    due("lamp(0, 3, 2)", x.lamp(0, 3, 2), 45);
    due("lamp(0, 4, 2)", x.lamp(0, 4, 2), 67);
  }

  private static void putEndsAtZero() {
    Check.sentence("Promise 28", "8 bits that are 0 mean that there are no more characters, "
        + "and everything above them has to be 0, too");
    for (int n = 1; n <= 8; n++) {
      PhaseLights x = new PhaseLights();
      due("put of " + n, x.put(Check.packed("xxxxxxxx".substring(0, n))), n);
      due("count(7)", x.count(7), n);
    }
    for (int n = 1; n <= 6; n++) {
      PhaseLights x = new PhaseLights();
      long characters = Check.packed("xxxxxxxx".substring(0, n));
      for (int bit = 8 * n + 8; bit < 64; bit++) {
        due("put of " + n + " with the bit " + bit, x.put(characters | 1L << bit), BAD_VALUE);
      }
      due("count(7)", x.count(7), 0);
    }
  }

  private static void putCodes() {
    Check.sentence("Promise 28", "BAD_VALUE if .. a code is not 33 to 126");
    PhaseLights x = new PhaseLights();
    for (int code = 0; code < 256; code++) {
      boolean good = code >= 33 && code <= 126;
      due("put of the code " + code, x.put(code), good ? 1 : BAD_VALUE);
      if (good) x.wipe();
    }
    PhaseLights y = new PhaseLights();
    for (int place = 0; place < 8; place++) {
      for (long code : new long[] {1, 32, 127, 128, 255}) {
        long characters = 0x7878787878787878L & ~(255L << 8 * place) | code << 8 * place;
        due("put of eight with the code " + code + " at " + place, y.put(characters), BAD_VALUE);
      }
      for (long code : new long[] {33, 126}) {
        long characters = 0x7878787878787878L & ~(255L << 8 * place) | code << 8 * place;
        due("put of eight with the code " + code + " at " + place, y.put(characters), 8);
        y.wipe();
      }
    }
  }

  private static void putNothing() {
    Check.sentence("Promise 28", "BAD_VALUE if there is no character");
    PhaseLights x = new PhaseLights();
    due("put(0)", x.put(0), BAD_VALUE);
    due("put of x and no last one", x.put('x' << 8), BAD_VALUE);
    due("put of seven and no last one", x.put(Check.packed("xxxxxxx") << 8), BAD_VALUE);
    due("put of the highest bits alone", x.put(0x7800000000000000L), BAD_VALUE);
    due("put(MIN)", x.put(Long.MIN_VALUE), BAD_VALUE);
    due("put(-1)", x.put(-1), BAD_VALUE);
    due("count(7)", x.count(7), 0);
  }

  private static void putBitsAbove() {
    Check.sentence("Promise 28", "BAD_VALUE if .. a bit above 8 bits that are 0 is not 0");
    PhaseLights x = new PhaseLights();
    due("put of x, 0 and x", x.put('x' << 16 | 'x'), BAD_VALUE);
    due("put of x, 0 and the lowest bit", x.put(1 << 16 | 'x'), BAD_VALUE);
    due("put of x, 0 and the highest bit", x.put(Long.MIN_VALUE | 'x'), BAD_VALUE);
    due("put of six, 0 and the highest bit", x.put(Check.packed("xxxxxx") | Long.MIN_VALUE), BAD_VALUE);
    due("put of seven", x.put(Check.packed("xxxxxxx")), 7);
  }

  private static void putTooMany() {
    Check.sentence("Promise 28", "TOO_MANY if the pad would be longer than 60");
    String eight = "xxxxxxxx";
    for (int length = 0; length <= 60; length++) {
      for (int n : new int[] {1, 7, 8}) {
        PhaseLights x = new PhaseLights();
        for (int i = 0; i < length / 8; i++) x.put(Check.packed(eight));
        if (length % 8 > 0) x.put(Check.packed(eight.substring(0, length % 8)));
        int want = length + n > 60 ? TOO_MANY : length + n;
        due("put of " + n + " to " + length, x.put(Check.packed(eight.substring(0, n))), want);
        due("count(7)", x.count(7), want == TOO_MANY ? length : want);
      }
    }
    PhaseLights y = with("xxxxxxxxxxxxxxxxxxxxxxxxxxxxxxxxxxxxxxxxxxxxxxxxxxxxxxxxxxxx");
    due("put(0) to 60", y.put(0), BAD_VALUE);
    due("put of a space to 60", y.put(' '), BAD_VALUE);
  }

  private static void wipe() {
    Check.sentence("Promise 29", "Empties the pad, and returns the length that it had.");
    PhaseLights x = new PhaseLights();
    due("wipe() of nothing", x.wipe(), 0);
    for (int n = 1; n <= 60; n++) x.put('x');
    due("wipe() of 60", x.wipe(), 60);
    due("wipe() again", x.wipe(), 0);
    due("count(7)", x.count(7), 0);
    due("put behind it", x.put('g'), 1);
    due("fault()", x.fault(), 1);
    due("wipe() of 1", x.wipe(), 1);
  }

  private static void faultNone() {
    Check.sentence("Promise 30", "Returns the fault of the pad, NONE if there is none.");
    PhaseLights x = new PhaseLights();
    due("fault() of nothing", x.fault(), 0);
    x.put('0');
    due("fault() of 0", x.fault(), 1);
    x.put('@');
    due("fault() of 0@", x.fault(), 2);
    x.put('1');
    due("fault() of 0@1", x.fault(), NONE);
    x.put('0');
    due("fault() of 0@10", x.fault(), NONE);
    x.put('0');
    due("fault() of 0@100", x.fault(), NONE);
    x.put('0');
    due("fault() of 0@1000", x.fault(), 5);
    due("fault() again", x.fault(), 5);
    x.put(';');
    due("fault() of 0@1000;", x.fault(), 5);
  }

  private static void faultLeavesThePad() {
    Check.sentence("Promise 30", "Returns the fault of the pad (which stays)");
    PhaseLights x = with("0@9;1@8;");
    due("fault()", x.fault(), 8);
    due("count(7)", x.count(7), 8);
    Check.text(x, "2@7");
    due("fault()", x.fault(), NONE);
    due("carryOut(0)", x.carryOut(0), 3);
    Check.same("wanted", wanted(x), "9 8 7 0 0 0 0 0 0 0 0 0");
  }

  private static void textsAreNoChanges() {
    Check.sentence("Promise 31", "each method that is a change (put(), wipe() and fault() are none)");
    PhaseLights x = new PhaseLights();
    x.put('x');
    x.fault();
    x.wipe();
    x.put('g');
    due("count(8)", x.count(8), 0);
    due("undo()", x.undo(), NOT_POSSIBLE);
    due("count(7)", x.count(7), 1);
    x.set(PhaseLights.CAP, 500);
    x.put('9');
    due("undo()", x.undo(), 0);
    due("count(7), the pad stays", x.count(7), 2);
  }
}
