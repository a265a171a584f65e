/** What each promise of the document says, told by hand: ordinary calls, edges and wrong calls. */
public final class PromisesTest {
  private static final int NO_SUCH = -1, BAD_VALUE = -2, BAD_TEXT = -3, TOO_MANY = -4, NOT_POSSIBLE = -5, NONE = -6;
  private static final int MIN = Integer.MIN_VALUE, MAX = Integer.MAX_VALUE;

  private PromisesTest() {
  }

  public static void main(String[] args) {
    constants();
    newObject();
    set();
    type();
    days();
    hang();
    takeDown();
    patch();
    feed();
    spread();
    at();
    record();
    go();
    reset();
    tick();
    tripsOfPhases();
    carryOut();
    carryOutSpans();
    lamp();
    dimmer();
    phase();
    cue();
    inCue();
    of();
    hire();
    count();
    ifGo();
    safeTicks();
    bestFeed();
    ifDays();
    put();
    wipe();
    fault();
    undo();
    save();
    restore();
    wrongCallsChangeNothing();
    Check.end();
  }

  private static void due(String call, long got, long want) {
    Check.due(call, got, want);
  }

  /** A rig of so many lamps of the same watts in premiere 0, the lamp i on the dimmer i. */
  private static PhaseLights rig(int lamps, int watts) {
    PhaseLights x = new PhaseLights();
    x.type(watts, 20, 1);
    for (int i = 0; i < lamps; i++) x.hang(0, 0, i);
    return x;
  }

  private static void level(PhaseLights x, int lamp, int level) {
    x.at(0, lamp, level);
  }

  private static void constants() {
    due("NO_SUCH", PhaseLights.NO_SUCH, -1);
    due("BAD_VALUE", PhaseLights.BAD_VALUE, -2);
    due("BAD_TEXT", PhaseLights.BAD_TEXT, -3);
    due("TOO_MANY", PhaseLights.TOO_MANY, -4);
    due("NOT_POSSIBLE", PhaseLights.NOT_POSSIBLE, -5);
    due("NONE", PhaseLights.NONE, -6);
    due("CAP", PhaseLights.CAP, 0);
    due("LIMIT", PhaseLights.LIMIT, 1);
    due("HOLD", PhaseLights.HOLD, 2);
  }

  private static void newObject() {
    PhaseLights x = new PhaseLights();
    int[] counts = {0, 0, 0, 0, 2400, 7000, 3, 0, 0};
    for (int what = 0; what < counts.length; what++) due("1: count(" + what + ")", x.count(what), counts[what]);
    for (int p = 0; p < 3; p++) {
      for (int what = 0; what <= 8; what++) due("1: of(" + p + ", " + what + ")", x.of(p, what), 0);
      for (int d = 0; d < 12; d++) due("1: dimmer(" + p + ", " + d + ", 0)", x.dimmer(p, d, 0), d % 3);
      for (int c = 0; c < 8; c++) due("1: cue(" + p + ", " + c + ", 0)", x.cue(p, c, 0), 0);
    }
    due("1: phase(0, 1, 3)", x.phase(0, 1, 3), 0b010010010010);
    due("1: undo()", x.undo(), NOT_POSSIBLE);
    due("1: restore(0)", x.restore(0), NOT_POSSIBLE);
  }

  private static void set() {
    PhaseLights x = new PhaseLights();
    due("2: set(CAP, 500)", x.set(0, 500), 2400);
    due("2: set(CAP, 6000)", x.set(0, 6000), 500);
    due("2: set(LIMIT, 1000)", x.set(1, 1000), 7000);
    due("2: set(LIMIT, 20000)", x.set(1, 20000), 1000);
    due("2: set(HOLD, 1)", x.set(2, 1), 3);
    due("2: set(HOLD, 20)", x.set(2, 20), 1);
    int[][] wrong = {{0, 499}, {0, 6001}, {1, 999}, {1, 20001}, {2, 0}, {2, 21}, {3, 3}, {-1, 500}, {MIN, 1000},
        {MAX, 1000}, {0, MIN}, {1, MAX}};
    for (int[] w : wrong) due("2: set(" + w[0] + ", " + w[1] + ")", x.set(w[0], w[1]), BAD_VALUE);
    due("2: count(4)", x.count(4), 6000);
    due("2: count(5)", x.count(5), 20000);
    due("2: count(6)", x.count(6), 20);
    due("2: count(8)", x.count(8), 6);
  }

  private static void type() {
    PhaseLights x = new PhaseLights();
    due("3: type(100, 0, 0)", x.type(100, 0, 0), 0);
    due("3: type(2000, 20, 50)", x.type(2000, 20, 50), 1);
    int[][] wrong = {{99, 0, 0}, {2001, 0, 0}, {100, -1, 0}, {100, 21, 0}, {100, 0, -1}, {100, 0, 51}, {MIN, 0, 0},
        {100, MAX, 0}, {100, 0, MIN}};
    for (int[] w : wrong) due("3: type(" + w[0] + ", ..)", x.type(w[0], w[1], w[2]), BAD_VALUE);
    for (int t = 2; t < 6; t++) due("3: type(500, 1, 1)", x.type(500, 1, 1), t);
    due("3: type(500, 1, 1) of 6", x.type(500, 1, 1), TOO_MANY);
    due("3: type(99, 1, 1) of 6", x.type(99, 1, 1), BAD_VALUE);
    due("3: count(0)", x.count(0), 6);
  }

  private static void days() {
    PhaseLights x = new PhaseLights();
    due("4: days(1, 0, 6)", x.days(1, 0, 6), 1);
    due("4: days(1, 2, 4)", x.days(1, 2, 4), 7);
    due("4: days(1, 6, 6)", x.days(1, 6, 6), 3);
    due("4: of(1, 0)", x.of(1, 0), 6);
    due("4: of(1, 1)", x.of(1, 1), 6);
    due("4: days(3, 9, 9)", x.days(3, 9, 9), NO_SUCH);
    due("4: days(-1, 0, 0)", x.days(-1, 0, 0), NO_SUCH);
    due("4: days(1, -1, 0)", x.days(1, -1, 0), BAD_VALUE);
    due("4: days(1, 7, 7)", x.days(1, 7, 7), BAD_VALUE);
    due("4: days(1, 3, 2)", x.days(1, 3, 2), BAD_VALUE);
    due("4: days(1, 3, 7)", x.days(1, 3, 7), BAD_VALUE);
    due("4: of(0, 1)", x.of(0, 1), 0);
  }

  private static void hang() {
    PhaseLights x = new PhaseLights();
    due("5: hang(0, 0, 0) without types", x.hang(0, 0, 0), NO_SUCH);
    x.type(100, 1, 1);
    due("5: hang(3, 0, 0)", x.hang(3, 0, 0), NO_SUCH);
    due("5: hang(0, 1, 0)", x.hang(0, 1, 0), NO_SUCH);
    due("5: hang(0, -1, 0)", x.hang(0, -1, 0), NO_SUCH);
    due("5: hang(0, 0, 12)", x.hang(0, 0, 12), NO_SUCH);
    due("5: hang(0, 0, -1)", x.hang(0, 0, -1), NO_SUCH);
    due("5: hang(0, 0, -7)", x.hang(0, 0, -7), NO_SUCH);
    due("5: hang(0, 0, NONE)", x.hang(0, 0, NONE), 0);
    due("5: lamp(0, 0, 1)", x.lamp(0, 0, 1), NONE);
    for (int i = 1; i < 12; i++) due("5: hang(0, 0, 11)", x.hang(0, 0, 11), i);
    due("5: hang(0, 0, 0), the 13th", x.hang(0, 0, 0), TOO_MANY);
    due("5: hang(0, 0, 12), the 13th", x.hang(0, 0, 12), NO_SUCH);
    due("5: hang(1, 0, 0)", x.hang(1, 0, 0), 0);
    due("5: of(0, 2)", x.of(0, 2), 12);
  }

  /** A fade goes on with those that stay, and a lamp that is hung later starts with nothing. */
  private static void takeDown() {
    PhaseLights x = rig(3, 100);
    x.type(200, 1, 1);
    x.hang(0, 1, 7);
    level(x, 0, 10);
    level(x, 1, 20);
    level(x, 2, 30);
    level(x, 3, 40);
    x.record(0, 5, 10);
    x.go(0, 5);
    x.tick(5);
    due("6: takeDown(0, 4)", x.takeDown(0, 4), NO_SUCH);
    due("6: takeDown(0, -1)", x.takeDown(0, -1), NO_SUCH);
    due("6: takeDown(3, 0)", x.takeDown(3, 0), NO_SUCH);
    due("6: takeDown(0, 1)", x.takeDown(0, 1), 3);
    due("6: lamp(0, 1, 1)", x.lamp(0, 1, 1), 2);
    due("6: lamp(0, 1, 2)", x.lamp(0, 1, 2), 30);
    due("6: lamp(0, 1, 3)", x.lamp(0, 1, 3), 15);
    due("6: lamp(0, 2, 0)", x.lamp(0, 2, 0), 1);
    due("6: lamp(0, 2, 1)", x.lamp(0, 2, 1), 7);
    due("6: lamp(0, 3, 0)", x.lamp(0, 3, 0), NO_SUCH);
    due("6: inCue(0, 5, 2)", x.inCue(0, 5, 2), 40);
    due("6: hang(0, 1, 8)", x.hang(0, 1, 8), 3);
    x.tick(5);
    due("6: lamp(0, 0, 3)", x.lamp(0, 0, 3), 10);
    due("6: lamp(0, 1, 3)", x.lamp(0, 1, 3), 30);
    due("6: lamp(0, 2, 3)", x.lamp(0, 2, 3), 40);
    due("6: lamp(0, 3, 3)", x.lamp(0, 3, 3), 0);
    due("6: lamp(0, 3, 2)", x.lamp(0, 3, 2), 0);
    due("6: inCue(0, 5, 3)", x.inCue(0, 5, 3), 0);
    for (int left = 3; left >= 0; left--) due("6: takeDown(0, 0)", x.takeDown(0, 0), left);
    due("6: takeDown(0, 0) of none", x.takeDown(0, 0), NO_SUCH);
    takeDownOfTwelve();
  }

  /** The lamp that comes on the last place of a full rig finds nothing there, and the fade keeps both its ends. */
  private static void takeDownOfTwelve() {
    PhaseLights x = rig(12, 100);
    Check.text(x, "0>11@80;10@60;11@20;r0/1;g0");
    x.carryOut(0);
    x.tick(1);
    Check.text(x, "10@100;11@0;r1/2;g1");
    x.carryOut(0);
    due("6: takeDown(0, 3)", x.takeDown(0, 3), 11);
    due("6: hang(0, 0, 2)", x.hang(0, 0, 2), 11);
    due("6: lamp(0, 9, 2)", x.lamp(0, 9, 2), 100);
    due("6: inCue(0, 0, 9)", x.inCue(0, 0, 9), 60);
    due("6: inCue(0, 0, 10)", x.inCue(0, 0, 10), 20);
    due("6: inCue(0, 0, 11)", x.inCue(0, 0, 11), 0);
    due("6: lamp(0, 11, 2)", x.lamp(0, 11, 2), 0);
    due("6: lamp(0, 11, 3)", x.lamp(0, 11, 3), 0);
    x.tick(1);
    due("6: lamp(0, 8, 3)", x.lamp(0, 8, 3), 80);
    due("6: lamp(0, 9, 3)", x.lamp(0, 9, 3), 80);
    due("6: lamp(0, 10, 3)", x.lamp(0, 10, 3), 10);
    due("6: lamp(0, 11, 3)", x.lamp(0, 11, 3), 0);
    x.tick(1);
    due("6: lamp(0, 9, 3)", x.lamp(0, 9, 3), 100);
    due("6: lamp(0, 10, 3)", x.lamp(0, 10, 3), 0);
    due("6: lamp(0, 11, 3)", x.lamp(0, 11, 3), 0);
  }

  private static void patch() {
    PhaseLights x = rig(2, 1000);
    level(x, 1, 100);
    x.record(0, 0, 1);
    x.go(0, 0);
    x.tick(1);
    due("7: patch(0, 1, NONE)", x.patch(0, 1, NONE), 1);
    due("7: count(8)", x.count(8), 6);
    due("7: lamp(0, 1, 4)", x.lamp(0, 1, 4), 0);
    due("7: patch(0, 1, 11)", x.patch(0, 1, 11), NONE);
    due("7: dimmer(0, 11, 1)", x.dimmer(0, 11, 1), 1000);
    due("7: patch(0, 2, 0)", x.patch(0, 2, 0), NO_SUCH);
    due("7: patch(3, 0, 0)", x.patch(3, 0, 0), NO_SUCH);
    due("7: patch(1, 0, 0)", x.patch(1, 0, 0), NO_SUCH);
    due("7: patch(0, 1, 12)", x.patch(0, 1, 12), NO_SUCH);
    due("7: patch(0, 1, -5)", x.patch(0, 1, -5), NO_SUCH);
    PhaseLights y = rig(1, 100);
    y.patch(0, 0, NONE);
    due("7: undo() behind patch", y.undo(), 2);
    due("7: lamp(0, 0, 1)", y.lamp(0, 0, 1), 0);
    due("7: patch(0, 0, 3)", y.patch(0, 0, 3), 0);
  }

  private static void feed() {
    PhaseLights x = new PhaseLights();
    due("8: feed(2, 11, 0)", x.feed(2, 11, 0), 2);
    due("8: feed(2, 11, 1)", x.feed(2, 11, 1), 0);
    due("8: dimmer(2, 11, 0)", x.dimmer(2, 11, 0), 1);
    due("8: dimmer(1, 11, 0)", x.dimmer(1, 11, 0), 2);
    due("8: feed(3, 0, 0)", x.feed(3, 0, 0), NO_SUCH);
    due("8: feed(0, 12, 0)", x.feed(0, 12, 0), NO_SUCH);
    due("8: feed(0, -1, 0)", x.feed(0, -1, 0), NO_SUCH);
    due("8: feed(0, -6, 0)", x.feed(0, -6, 0), NO_SUCH);
    due("8: feed(0, 0, 3)", x.feed(0, 0, 3), NO_SUCH);
    due("8: feed(0, 0, -1)", x.feed(0, 0, -1), NO_SUCH);
  }

  /** Worst loads 100, 500, 500, 300 of the dimmers 0, 4, 5, 9, by two cues: 4 to 0, 5 to 1, 9 to 2, 0 to 2. */
  private static void spread() {
    PhaseLights x = new PhaseLights();
    due("9: spread(0) without lamps", x.spread(0), 8);
    due("9: spread(3)", x.spread(3), NO_SUCH);
    due("9: spread(-1)", x.spread(-1), NO_SUCH);
    x.undo();
    x.type(1000, 20, 1);
    x.hang(0, 0, 0);
    x.hang(0, 0, 4);
    x.hang(0, 0, 5);
    x.hang(0, 0, 9);
    level(x, 0, 10);
    level(x, 1, 50);
    level(x, 2, 20);
    x.record(0, 3, 1);
    level(x, 1, 0);
    level(x, 2, 50);
    level(x, 3, 30);
    x.record(0, 7, 1);
    level(x, 0, 100);
    due("9: spread(0)", x.spread(0), 9);
    int[] phases = {2, 2, 2, 2, 0, 1, 2, 2, 2, 2, 2, 2};
    for (int d = 0; d < 12; d++) due("9: dimmer(0, " + d + ", 0)", x.dimmer(0, d, 0), phases[d]);
    due("9: spread(0) again", x.spread(0), 0);
    due("9: count(8)", x.count(8), 6);
  }

  private static void at() {
    PhaseLights x = rig(1, 100);
    due("10: at(0, 0, 100)", x.at(0, 0, 100), 0);
    due("10: at(0, 0, 0)", x.at(0, 0, 0), 100);
    due("10: at(0, 0, 7)", x.at(0, 0, 7), 0);
    due("10: at(0, 0, 101)", x.at(0, 0, 101), BAD_VALUE);
    due("10: at(0, 0, -1)", x.at(0, 0, -1), BAD_VALUE);
    due("10: at(0, 1, 101)", x.at(0, 1, 101), NO_SUCH);
    due("10: at(0, -1, 1)", x.at(0, -1, 1), NO_SUCH);
    due("10: at(3, 0, 1)", x.at(3, 0, 1), NO_SUCH);
    due("10: lamp(0, 0, 2)", x.lamp(0, 0, 2), 7);
    due("10: lamp(0, 0, 3)", x.lamp(0, 0, 3), 0);
  }

  private static void record() {
    PhaseLights x = rig(2, 100);
    level(x, 1, 60);
    due("11: record(0, 7, 50)", x.record(0, 7, 50), 1);
    due("11: record(0, 0, 1)", x.record(0, 0, 1), 2);
    level(x, 1, 61);
    due("11: record(0, 7, 2)", x.record(0, 7, 2), 2);
    due("11: inCue(0, 7, 1)", x.inCue(0, 7, 1), 61);
    due("11: inCue(0, 0, 1)", x.inCue(0, 0, 1), 60);
    due("11: cue(0, 7, 1)", x.cue(0, 7, 1), 2);
    due("11: record(0, 8, 0)", x.record(0, 8, 0), NO_SUCH);
    due("11: record(0, -1, 1)", x.record(0, -1, 1), NO_SUCH);
    due("11: record(3, 0, 1)", x.record(3, 0, 1), NO_SUCH);
    due("11: record(0, 1, 0)", x.record(0, 1, 0), BAD_VALUE);
    due("11: record(0, 1, 51)", x.record(0, 1, 51), BAD_VALUE);
    due("11: of(0, 3)", x.of(0, 3), 0b10000001);
    due("11: of(1, 3)", x.of(1, 3), 0);
  }

  private static void go() {
    PhaseLights x = rig(2, 100);
    due("12: go(0, 0)", x.go(0, 0), NOT_POSSIBLE);
    due("12: go(0, 8)", x.go(0, 8), NO_SUCH);
    due("12: go(0, -1)", x.go(0, -1), NO_SUCH);
    due("12: go(3, 0)", x.go(3, 0), NO_SUCH);
    level(x, 0, 100);
    level(x, 1, 10);
    x.record(0, 0, 3);
    level(x, 0, 5);
    level(x, 1, 11);
    x.record(0, 1, 7);
    due("12: go(0, 0)", x.go(0, 0), 3);
    due("12: of(0, 4)", x.of(0, 4), 3);
    due("12: lamp(0, 0, 3) at once", x.lamp(0, 0, 3), 0);
    x.record(0, 0, 50);
    x.tick(1);
    due("12: lamp(0, 0, 3) after 1 of 3", x.lamp(0, 0, 3), 33);
    due("12: lamp(0, 1, 3) after 1 of 3", x.lamp(0, 1, 3), 3);
    x.tick(1);
    due("12: lamp(0, 0, 3) after 2 of 3", x.lamp(0, 0, 3), 66);
    due("12: lamp(0, 1, 3) after 2 of 3", x.lamp(0, 1, 3), 6);
    due("12: go(0, 1)", x.go(0, 1), 7);
    x.tick(1);
    due("12: lamp(0, 0, 3) down, 1 of 7: 66 - 61 / 7", x.lamp(0, 0, 3), 58);
    due("12: lamp(0, 1, 3) up, 1 of 7", x.lamp(0, 1, 3), 6);
    x.tick(2);
    due("12: lamp(0, 0, 3) down, 3 of 7: 66 - 183 / 7", x.lamp(0, 0, 3), 40);
    due("12: of(0, 4)", x.of(0, 4), 4);
    x.tick(4);
    due("12: lamp(0, 0, 3) at the end", x.lamp(0, 0, 3), 5);
    due("12: of(0, 4) at the end", x.of(0, 4), 0);
    x.tick(1);
    due("12: lamp(0, 0, 3) behind the end", x.lamp(0, 0, 3), 5);
    level(x, 0, 77);
    x.tick(1);
    due("12: lamp(0, 0, 3) is not the wanted level", x.lamp(0, 0, 3), 5);
  }

  private static void reset() {
    PhaseLights x = tripping();
    due("13: reset(0) with nothing tripped", x.reset(0), 0);
    due("13: dimmer(0, 0, 3)", x.dimmer(0, 0, 3), 0);
    x.go(0, 0);
    x.tick(2);
    due("13: dimmer(0, 0, 3)", x.dimmer(0, 0, 3), 1);
    due("13: reset(0) ahead of the trip", x.reset(0), 0);
    due("13: of(0, 4) behind reset", x.of(0, 4), 2);
    due("13: tick(2)", x.tick(2), 0);
    due("13: tick(1)", x.tick(1), 2);
    due("13: reset(1)", x.reset(1), 0);
    due("13: of(0, 6)", x.of(0, 6), 0b11);
    due("13: reset(0)", x.reset(0), 2);
    due("13: of(0, 6)", x.of(0, 6), 0);
    due("13: lamp(0, 0, 3)", x.lamp(0, 0, 3), 100);
    due("13: dimmer(0, 0, 1)", x.dimmer(0, 0, 1), 2000);
    due("13: reset(3)", x.reset(3), NO_SUCH);
    due("13: reset(-1)", x.reset(-1), NO_SUCH);
  }

  /** Two lamps of 2000 on the dimmers 0 and 1, CAP 999: above it from the second of four ticks. */
  private static PhaseLights tripping() {
    PhaseLights x = rig(2, 2000);
    x.set(0, 999);
    level(x, 0, 100);
    level(x, 1, 100);
    x.record(0, 0, 4);
    return x;
  }

  private static void tick() {
    PhaseLights x = tripping();
    due("14: tick(0)", x.tick(0), BAD_VALUE);
    due("14: tick(101)", x.tick(101), BAD_VALUE);
    due("14: tick(-1)", x.tick(-1), BAD_VALUE);
    due("14: tick(100)", x.tick(100), 0);
    x.go(0, 0);
    due("14: tick(3)", x.tick(3), 0);
    due("14: dimmer(0, 1, 3)", x.dimmer(0, 1, 3), 2);
    due("14: tick(1)", x.tick(1), 2);
    due("14: dimmer(0, 1, 3)", x.dimmer(0, 1, 3), 0);
    due("14: dimmer(0, 1, 2)", x.dimmer(0, 1, 2), 1);
    due("14: dimmer(0, 2, 2)", x.dimmer(0, 2, 2), 0);
    due("14: dimmer(0, 1, 1)", x.dimmer(0, 1, 1), 0);
    due("14: lamp(0, 1, 4)", x.lamp(0, 1, 4), 0);
    due("14: lamp(0, 1, 3)", x.lamp(0, 1, 3), 100);
    due("14: tick(100), what has tripped stays so", x.tick(100), 0);
    due("14: of(0, 6)", x.of(0, 6), 0b11);

    PhaseLights y = tripping();
    y.set(0, 1000);
    y.go(0, 0);
    y.tick(2);
    due("14: a load of CAP is not above it", y.dimmer(0, 0, 3), 0);
    y.tick(2);
    due("14: dimmer(0, 0, 3)", y.dimmer(0, 0, 3), 2);
    y.patch(0, 0, NONE);
    y.set(2, 1);
    due("14: a load that ends makes the count 0", y.tick(1), 1);
    due("14: dimmer(0, 0, 3)", y.dimmer(0, 0, 3), 0);
    due("14: of(0, 6)", y.of(0, 6), 0b10);
  }

  /** Four lamps of 1000 on phase 0, LIMIT 2000: a dimmer that trips in the same tick takes its load off. */
  private static void tripsOfPhases() {
    PhaseLights x = new PhaseLights();
    x.type(1000, 20, 1);
    for (int i = 0; i < 4; i++) x.hang(0, 0, i == 1 ? 0 : 3 * i);
    x.set(1, 2000);
    x.set(2, 2);
    for (int i = 0; i < 4; i++) level(x, i, 100);
    x.record(0, 0, 1);
    x.go(0, 0);
    x.set(0, 1000);
    due("14: tick(1)", x.tick(1), 0);
    due("14: phase(0, 0, 2)", x.phase(0, 0, 2), 1);
    due("14: dimmer(0, 0, 3)", x.dimmer(0, 0, 3), 1);
    due("14: tick(1), the dimmer alone", x.tick(1), 1);
    due("14: phase(0, 0, 2)", x.phase(0, 0, 2), 0);
    due("14: phase(0, 0, 0)", x.phase(0, 0, 0), 2000);
    x.undo();
    x.set(0, 2000);
    due("14: tick(1), the phase alone", x.tick(1), 1);
    due("14: of(0, 6)", x.of(0, 6), 0);
    due("14: of(0, 7)", x.of(0, 7), 1);
    due("14: phase(0, 0, 0)", x.phase(0, 0, 0), 0);
    due("14: phase(0, 0, 1)", x.phase(0, 0, 1), 1);
    due("14: dimmer(0, 0, 1)", x.dimmer(0, 0, 1), 0);
    due("14: feed(0, 0, 1)", x.feed(0, 0, 1), 0);
    due("14: dimmer(0, 0, 1) on another phase", x.dimmer(0, 0, 1), 2000);
    due("13: reset(0)", x.reset(0), 1);
    due("14: phase(0, 0, 0)", x.phase(0, 0, 0), 2000);
  }

  private static void carryOut() {
    PhaseLights x = rig(3, 100);
    due("15: carryOut(3)", x.carryOut(3), NO_SUCH);
    due("15: carryOut(-1)", x.carryOut(-1), NO_SUCH);
    due("15: carryOut(0) of nothing", x.carryOut(0), BAD_TEXT);
    Check.text(x, "0@5;");
    due("15: carryOut(0) of a fault", x.carryOut(0), BAD_TEXT);
    due("15: carryOut(3) of a fault", x.carryOut(3), NO_SUCH);
    due("15: count(7)", x.count(7), 4);
    due("15: count(8)", x.count(8), 4);
    Check.text(x, "r3/20;g3;x");
    due("15: carryOut(0)", x.carryOut(0), 4);
    due("15: count(7)", x.count(7), 0);
    due("15: count(8)", x.count(8), 5);
    due("15: of(0, 4)", x.of(0, 4), 20);
    due("15: inCue(0, 3, 0)", x.inCue(0, 3, 0), 5);
    Check.text(x, "1@9;g0;2@9");
    due("15: carryOut(0), g0 is not possible", x.carryOut(0), 1);
    due("15: lamp(0, 1, 2)", x.lamp(0, 1, 2), 9);
    due("15: lamp(0, 2, 2)", x.lamp(0, 2, 2), 0);
    due("15: count(7)", x.count(7), 0);
    Check.text(x, "0>5@33;x");
    due("15: carryOut(0), no lamp 3", x.carryOut(0), 0);
    due("15: lamp(0, 0, 2)", x.lamp(0, 0, 2), 33);
    due("15: lamp(0, 2, 2)", x.lamp(0, 2, 2), 33);
    x.undo();
    due("15: lamp(0, 2, 2)", x.lamp(0, 2, 2), 0);
    due("15: lamp(0, 1, 2)", x.lamp(0, 1, 2), 9);
    Check.text(x, "7@1");
    int before = x.count(8);
    due("15: carryOut(1), none is carried out", x.carryOut(1), 0);
    due("15: count(8)", x.count(8), before + 1);
    Check.text(x, "x");
    x.carryOut(1);
    due("15: undo() leaves the pad", x.undo(), before + 1 == 6 ? 5 : before + 1);
    due("15: count(7)", x.count(7), 0);
  }

  private static void carryOutSpans() {
    PhaseLights x = rig(3, 100);
    Check.text(x, "2@6");
    due("15: carryOut(0)", x.carryOut(0), 1);
    due("15: lamp(0, 0, 2)", x.lamp(0, 0, 2), 0);
    due("15: lamp(0, 2, 2)", x.lamp(0, 2, 2), 6);
    Check.text(x, "2@0");
    x.carryOut(0);
    Check.text(x, "5>1@8");
    due("15: carryOut(0), lamp 5 is the first", x.carryOut(0), 0);
    due("15: lamp(0, 2, 2)", x.lamp(0, 2, 2), 0);
    Check.text(x, "2>1+0+3@8;0@1");
    due("15: carryOut(0)", x.carryOut(0), 0);
    for (int i = 0; i < 3; i++) due("15: lamp(0, " + i + ", 2)", x.lamp(0, i, 2), 8);
    Check.text(x, "2>2@100;1>0@0;0+2>1@50");
    due("15: carryOut(0)", x.carryOut(0), 3);
    for (int i = 0; i < 3; i++) due("15: lamp(0, " + i + ", 2)", x.lamp(0, i, 2), 50);
    PhaseLights y = rig(12, 100);
    Check.text(y, "0+1+2+3+4+5+6+7+8+9+0+1+2+3+4+5+6+7+8+9+0+1+2+3+4+5+6+7+8@7");
    due("15: count(7)", y.count(7), 59);
    due("15: carryOut(0)", y.carryOut(0), 1);
    due("15: lamp(0, 9, 2)", y.lamp(0, 9, 2), 7);
    due("15: lamp(0, 10, 2)", y.lamp(0, 10, 2), 0);
    Check.text(y, "x;x;x;x;x;x;x;x;x;x;x;x;x;x;x;x;x;x;x;x;x;x;x;x;x;x;x;x;x;x");
    due("15: carryOut(0) of 30 orders", y.carryOut(0), 30);
    Check.text(y, "11>0@99;10@98;r7/50;g7");
    due("15: carryOut(0)", y.carryOut(0), 4);
    due("15: inCue(0, 7, 11)", y.inCue(0, 7, 11), 99);
    due("15: inCue(0, 7, 10)", y.inCue(0, 7, 10), 98);
    due("15: cue(0, 7, 1)", y.cue(0, 7, 1), 50);
    Check.text(y, "x");
    PhaseLights z = tripping();
    z.go(0, 0);
    z.tick(10);
    Check.text(z, "x");
    due("15: carryOut(0) of a reset", z.carryOut(0), 1);
    due("15: of(0, 6)", z.of(0, 6), 0);
  }

  private static void lamp() {
    PhaseLights x = rig(2, 333);
    x.type(100, 1, 1);
    x.hang(0, 1, NONE);
    level(x, 1, 50);
    x.record(0, 0, 1);
    x.go(0, 0);
    level(x, 1, 3);
    x.tick(1);
    int[] want = {0, 1, 3, 50, 166};
    for (int what = 0; what < want.length; what++) due("16: lamp(0, 1, " + what + ")", x.lamp(0, 1, what), want[what]);
    due("16: lamp(0, 2, 0)", x.lamp(0, 2, 0), 1);
    due("16: lamp(0, 2, 1)", x.lamp(0, 2, 1), NONE);
    due("16: lamp(0, 1, 5)", x.lamp(0, 1, 5), BAD_VALUE);
    due("16: lamp(0, 1, -1)", x.lamp(0, 1, -1), BAD_VALUE);
    due("16: lamp(0, 3, 5)", x.lamp(0, 3, 5), NO_SUCH);
    due("16: lamp(0, -1, 0)", x.lamp(0, -1, 0), NO_SUCH);
    due("16: lamp(3, 0, 0)", x.lamp(3, 0, 0), NO_SUCH);
    due("16: lamp(MIN, 0, 0)", x.lamp(MIN, 0, 0), NO_SUCH);
  }

  /** Each lamp's load is rounded down by itself: twice 999 / 2 is 998. */
  private static void dimmer() {
    PhaseLights x = rig(1, 999);
    x.hang(0, 0, 0);
    level(x, 0, 50);
    level(x, 1, 50);
    x.record(0, 0, 1);
    level(x, 0, 100);
    level(x, 1, 1);
    x.record(0, 1, 1);
    x.go(0, 0);
    x.tick(1);
    int[] want = {0, 998, 0, 0, 2, 1008};
    for (int what = 0; what < want.length; what++) {
      due("17: dimmer(0, 0, " + what + ")", x.dimmer(0, 0, what), want[what]);
    }
    x.patch(0, 1, NONE);
    due("17: dimmer(0, 0, 4)", x.dimmer(0, 0, 4), 1);
    due("17: dimmer(0, 0, 6)", x.dimmer(0, 0, 6), BAD_VALUE);
    due("17: dimmer(0, 0, -1)", x.dimmer(0, 0, -1), BAD_VALUE);
    due("17: dimmer(0, 12, 6)", x.dimmer(0, 12, 6), NO_SUCH);
    due("17: dimmer(0, -1, 0)", x.dimmer(0, -1, 0), NO_SUCH);
    due("17: dimmer(3, 0, 0)", x.dimmer(3, 0, 0), NO_SUCH);
    PhaseLights y = tripping();
    y.go(0, 0);
    y.tick(10);
    due("17: dimmer(0, 0, 5), tripped", y.dimmer(0, 0, 5), 2000);
  }

  /** The greatest load of a phase is of one cue: dimmer 0 by the one and dimmer 3 by the other do not add up. */
  private static void phase() {
    PhaseLights x = rig(4, 1000);
    level(x, 0, 100);
    x.record(0, 0, 1);
    level(x, 0, 20);
    level(x, 3, 90);
    x.record(0, 1, 1);
    due("18: phase(0, 0, 4)", x.phase(0, 0, 4), 1100);
    due("18: phase(0, 1, 4)", x.phase(0, 1, 4), 0);
    x.go(0, 1);
    x.tick(1);
    due("18: phase(0, 0, 0)", x.phase(0, 0, 0), 1100);
    x.set(2, 5);
    x.set(1, 1000);
    x.tick(2);
    due("18: phase(0, 0, 2)", x.phase(0, 0, 2), 2);
    due("18: phase(0, 0, 1)", x.phase(0, 0, 1), 0);
    x.tick(3);
    due("18: phase(0, 0, 1)", x.phase(0, 0, 1), 1);
    due("18: phase(0, 0, 4), tripped", x.phase(0, 0, 4), 1100);
    due("18: phase(0, 0, 3)", x.phase(0, 0, 3), 0b001001001001);
    x.feed(0, 11, 0);
    due("18: phase(0, 0, 3)", x.phase(0, 0, 3), 0b101001001001);
    due("18: phase(0, 2, 3)", x.phase(0, 2, 3), 0b000100100100);
    due("18: phase(0, 0, 5)", x.phase(0, 0, 5), BAD_VALUE);
    due("18: phase(0, 0, -1)", x.phase(0, 0, -1), BAD_VALUE);
    due("18: phase(0, 3, 5)", x.phase(0, 3, 5), NO_SUCH);
    due("18: phase(0, -1, 0)", x.phase(0, -1, 0), NO_SUCH);
    due("18: phase(3, 0, 0)", x.phase(3, 0, 0), NO_SUCH);
  }

  private static void cue() {
    PhaseLights x = rig(2, 150);
    x.hang(0, 0, NONE);
    for (int i = 0; i < 3; i++) level(x, i, 33);
    x.record(0, 4, 8);
    due("19: cue(0, 4, 0)", x.cue(0, 4, 0), 1);
    due("19: cue(0, 4, 1)", x.cue(0, 4, 1), 8);
    due("19: cue(0, 4, 2)", x.cue(0, 4, 2), 98);
    for (int what = 0; what < 3; what++) due("19: cue(0, 3, " + what + ")", x.cue(0, 3, what), 0);
    due("19: cue(0, 4, 3)", x.cue(0, 4, 3), BAD_VALUE);
    due("19: cue(0, 4, -1)", x.cue(0, 4, -1), BAD_VALUE);
    due("19: cue(0, 8, 3)", x.cue(0, 8, 3), NO_SUCH);
    due("19: cue(0, -1, 0)", x.cue(0, -1, 0), NO_SUCH);
    due("19: cue(3, 0, 0)", x.cue(3, 0, 0), NO_SUCH);
    PhaseLights y = tripping();
    y.go(0, 0);
    y.tick(10);
    due("19: cue(0, 0, 2), tripped", y.cue(0, 0, 2), 4000);
  }

  private static void inCue() {
    PhaseLights x = rig(2, 100);
    level(x, 1, 44);
    x.record(0, 6, 1);
    due("20: inCue(0, 6, 1)", x.inCue(0, 6, 1), 44);
    due("20: inCue(0, 5, 1)", x.inCue(0, 5, 1), NONE);
    due("20: inCue(0, 5, 2)", x.inCue(0, 5, 2), NO_SUCH);
    due("20: inCue(0, 8, 1)", x.inCue(0, 8, 1), NO_SUCH);
    due("20: inCue(0, -1, 1)", x.inCue(0, -1, 1), NO_SUCH);
    due("20: inCue(3, 6, 1)", x.inCue(3, 6, 1), NO_SUCH);
    x.hang(0, 0, 0);
    due("20: inCue(0, 6, 2)", x.inCue(0, 6, 2), 0);
  }

  private static void of() {
    PhaseLights x = rig(3, 1000);
    x.days(0, 2, 5);
    level(x, 0, 100);
    level(x, 1, 40);
    level(x, 2, 70);
    x.record(0, 1, 9);
    x.record(0, 4, 3);
    x.go(0, 4);
    x.tick(3);
    x.go(0, 1);
    int[] want = {2, 5, 3, 0b10010, 9, 2100, 0, 0, 600};
    for (int what = 0; what < want.length; what++) due("21: of(0, " + what + ")", x.of(0, what), want[what]);
    due("21: of(0, 9)", x.of(0, 9), BAD_VALUE);
    due("21: of(0, -1)", x.of(0, -1), BAD_VALUE);
    due("21: of(3, 9)", x.of(3, 9), NO_SUCH);
    due("21: of(-1, 0)", x.of(-1, 0), NO_SUCH);
  }

  private static void hire() {
    PhaseLights x = new PhaseLights();
    x.type(100, 2, 7);
    x.type(100, 0, 50);
    for (int i = 0; i < 3; i++) x.hang(0, 0, NONE);
    x.hang(1, 0, 0);
    x.hang(1, 1, 0);
    x.days(0, 1, 2);
    x.days(1, 2, 3);
    int[][] want = {{0, 0, 0}, {3, 1, 14}, {4, 2, 14}, {1, 0, 7}, {0, 0, 0}, {0, 0, 0}, {0, 0, 0}};
    for (int day = 0; day < 7; day++) {
      for (int what = 0; what < 3; what++) {
        due("22: hire(0, " + day + ", " + what + ")", x.hire(0, day, what), want[day][what]);
      }
    }
    due("22: hire(1, 3, 0)", x.hire(1, 3, 0), 1);
    due("22: hire(1, 3, 1)", x.hire(1, 3, 1), 1);
    due("22: hire(1, 3, 2)", x.hire(1, 3, 2), 0);
    due("22: hire(2, 9, 9)", x.hire(2, 9, 9), NO_SUCH);
    due("22: hire(-1, 0, 0)", x.hire(-1, 0, 0), NO_SUCH);
    due("22: hire(0, 7, 0)", x.hire(0, 7, 0), BAD_VALUE);
    due("22: hire(0, -1, 0)", x.hire(0, -1, 0), BAD_VALUE);
    due("22: hire(0, 0, 3)", x.hire(0, 0, 3), BAD_VALUE);
    due("22: hire(0, 0, -1)", x.hire(0, 0, -1), BAD_VALUE);
  }

  private static void count() {
    PhaseLights x = new PhaseLights();
    x.type(100, 2, 7);
    x.type(100, 1, 5);
    for (int i = 0; i < 3; i++) x.hang(0, 0, 0);
    x.hang(1, 1, 0);
    x.hang(1, 1, 0);
    x.days(0, 1, 2);
    x.days(1, 4, 6);
    x.hang(2, 1, 0);
    x.days(2, 4, 5);
    Check.text(x, "abc");
    int[] want = {2, 14 + 14 + 5 + 5 + 5, 1 + 1 + 2 + 2 + 1, 1, 2400, 7000, 3, 3, 6};
    for (int what = 0; what < want.length; what++) due("23: count(" + what + ")", x.count(what), want[what]);
    x.days(2, 5, 6);
    due("23: count(3), of several the first", x.count(3), 1);
    x.hang(2, 0, 0);
    due("23: count(3)", x.count(3), 5);
    PhaseLights y = new PhaseLights();
    y.type(100, 0, 7);
    y.type(100, 1, 9);
    y.hang(0, 1, 0);
    y.days(0, 5, 6);
    due("23: count(3), a single lamp", y.count(3), 5);
    due("23: count(1)", y.count(1), 18);
    y.hang(1, 0, 0);
    due("23: count(2), on day 0", y.count(2), 1);
    due("23: count(3), of several the first", y.count(3), 0);
    y.days(1, 6, 6);
    due("23: count(3)", y.count(3), 6);
    due("23: count(9)", x.count(9), BAD_VALUE);
    due("23: count(-1)", x.count(-1), BAD_VALUE);
  }

  /** CAP 999, four ticks to 2000: loads 500, 1000, 1500, and in the fourth tick both dimmers trip. */
  private static void ifGo() {
    PhaseLights x = tripping();
    due("24: ifGo(0, 0, 0)", x.ifGo(0, 0, 0), 2);
    due("24: ifGo(0, 0, 1)", x.ifGo(0, 0, 1), 4);
    due("24: ifGo(0, 0, 2), behind its trips", x.ifGo(0, 0, 2), 1500);
    due("24: ifGo(0, 0, 3)", x.ifGo(0, 0, 3), 1500);
    due("24: nothing changes", x.lamp(0, 0, 3) + x.of(0, 4) + x.of(0, 6), 0);
    x.set(1, 1000);
    x.feed(0, 1, 0);
    x.set(2, 1);
    due("24: ifGo(0, 0, 0)", x.ifGo(0, 0, 0), 2);
    due("24: ifGo(0, 0, 3)", x.ifGo(0, 0, 3), 1000);
    x.set(0, 6000);
    due("24: ifGo(0, 0, 0), the phase", x.ifGo(0, 0, 0), 1);
    due("24: ifGo(0, 0, 1)", x.ifGo(0, 0, 1), 2);
    due("24: ifGo(0, 0, 2)", x.ifGo(0, 0, 2), 500);
    x.set(1, 20000);
    due("24: ifGo(0, 0, 1), none", x.ifGo(0, 0, 1), NONE);
    due("24: ifGo(0, 0, 3)", x.ifGo(0, 0, 3), 4000);
    x.set(2, 20);
    x.set(0, 1999);
    due("24: ifGo(0, 0, 1), in the last tick but one", x.ifGo(0, 0, 1), 23);
    due("24: ifGo(0, 1, 4)", x.ifGo(0, 1, 4), BAD_VALUE);
    due("24: ifGo(0, 0, -1)", x.ifGo(0, 0, -1), BAD_VALUE);
    due("24: ifGo(0, 1, 3)", x.ifGo(0, 1, 3), NOT_POSSIBLE);
    due("24: ifGo(0, 8, 4)", x.ifGo(0, 8, 4), NO_SUCH);
    due("24: ifGo(0, -1, 0)", x.ifGo(0, -1, 0), NO_SUCH);
    due("24: ifGo(3, 0, 0)", x.ifGo(3, 0, 0), NO_SUCH);
    x.go(0, 0);
    x.tick(100);
    due("24: ifGo(0, 0, 0), what has tripped does not again", x.ifGo(0, 0, 0), 0);
    x.reset(0);
    x.set(0, 1000);
    due("24: ifGo(0, 0, 1), from the levels of now", x.ifGo(0, 0, 1), 20);
    PhaseLights y = rig(1, 2000);
    y.record(0, 0, 5);
    due("24: ifGo(0, 0, 2) without a load", y.ifGo(0, 0, 2), 0);
    due("24: ifGo(0, 0, 3) without a load", y.ifGo(0, 0, 3), 0);
  }

  private static void safeTicks() {
    PhaseLights x = rig(1, 2000);
    x.set(0, 1000);
    level(x, 0, 50);
    x.record(0, 0, 9);
    due("25: safeTicks(0, 0)", x.safeTicks(0, 0), 1);
    level(x, 0, 51);
    x.record(0, 0, 9);
    due("25: safeTicks(0, 0), none", x.safeTicks(0, 0), NONE);
    due("25: safeTicks(0, 1)", x.safeTicks(0, 1), NOT_POSSIBLE);
    due("25: safeTicks(0, 8)", x.safeTicks(0, 8), NO_SUCH);
    due("25: safeTicks(0, -1)", x.safeTicks(0, -1), NO_SUCH);
    due("25: safeTicks(3, 0)", x.safeTicks(3, 0), NO_SUCH);
    due("25: nothing changes", x.of(0, 4) + x.lamp(0, 0, 3) + x.of(0, 6), 0);
    level(x, 0, 100);
    x.record(0, 1, 1);
    x.go(0, 1);
    x.set(0, 6000);
    x.tick(1);
    x.set(0, 1000);
    level(x, 0, 50);
    x.record(0, 0, 50);
    due("25: ifGo(0, 0, 1), it falls too slowly", x.ifGo(0, 0, 1), 3);
    due("25: safeTicks(0, 0), it falls at once", x.safeTicks(0, 0), 1);
    due("25: safeTicks(0, 1), it stays too high", x.safeTicks(0, 1), NONE);
    x.tick(3);
    due("25: safeTicks(0, 1), what has tripped does not again", x.safeTicks(0, 1), 1);
    x.reset(0);
    x.set(0, 6000);
    due("25: safeTicks(0, 1), the phase holds it", x.safeTicks(0, 1), 1);
    x.set(1, 1999);
    due("25: safeTicks(0, 1), the phase does not", x.safeTicks(0, 1), NONE);
  }

  private static void bestFeed() {
    PhaseLights x = rig(3, 1000);
    level(x, 0, 50);
    level(x, 1, 30);
    level(x, 2, 20);
    x.record(0, 0, 1);
    due("26: bestFeed(0, 0), of several the lowest", x.bestFeed(0, 0), 0);
    due("26: bestFeed(0, 1)", x.bestFeed(0, 1), 1);
    due("26: bestFeed(0, 11), without lamps", x.bestFeed(0, 11), 0);
    x.hang(0, 0, 3);
    level(x, 3, 40);
    x.record(0, 0, 1);
    due("26: bestFeed(0, 3), 90 or 70 or 60", x.bestFeed(0, 3), 2);
    due("26: dimmer(0, 3, 0), nothing changes", x.dimmer(0, 3, 0), 0);
    due("26: bestFeed(0, 12)", x.bestFeed(0, 12), NO_SUCH);
    due("26: bestFeed(0, -1)", x.bestFeed(0, -1), NO_SUCH);
    due("26: bestFeed(3, 0)", x.bestFeed(3, 0), NO_SUCH);
  }

  private static void ifDays() {
    PhaseLights x = new PhaseLights();
    x.type(100, 1, 1);
    x.type(100, 0, 1);
    x.hang(0, 0, 0);
    x.hang(0, 1, 0);
    x.hang(1, 0, 0);
    x.days(0, 1, 3);
    x.days(1, 5, 5);
    due("27: ifDays(1, 5, 5)", x.ifDays(1, 5, 5), 3);
    due("27: ifDays(1, 3, 6)", x.ifDays(1, 3, 6), 4);
    due("27: ifDays(1, 0, 6)", x.ifDays(1, 0, 6), 6);
    due("27: ifDays(0, 5, 6)", x.ifDays(0, 5, 6), 3);
    due("27: of(1, 0), nothing changes", x.of(1, 0), 5);
    due("27: of(1, 1)", x.of(1, 1), 5);
    due("27: count(2)", x.count(2), 3);
    due("27: ifDays(3, 7, 7)", x.ifDays(3, 7, 7), NO_SUCH);
    due("27: ifDays(-1, 0, 0)", x.ifDays(-1, 0, 0), NO_SUCH);
    due("27: ifDays(0, -1, 0)", x.ifDays(0, -1, 0), BAD_VALUE);
    due("27: ifDays(0, 6, 5)", x.ifDays(0, 6, 5), BAD_VALUE);
    due("27: ifDays(0, 0, 7)", x.ifDays(0, 0, 7), BAD_VALUE);
  }

  private static void put() {
    PhaseLights x = new PhaseLights();
    due("28: put(0)", x.put(0), BAD_VALUE);
    due("28: put of code 32", x.put(32), BAD_VALUE);
    due("28: put of code 33", x.put(33), 1);
    due("28: put of code 126", x.put(126), 2);
    due("28: put of code 127", x.put(127), BAD_VALUE);
    due("28: put of code 255", x.put(255), BAD_VALUE);
    due("28: put(-1)", x.put(-1), BAD_VALUE);
    due("28: put(MIN)", x.put(Long.MIN_VALUE), BAD_VALUE);
    due("28: put(MAX)", x.put(Long.MAX_VALUE), BAD_VALUE);
    due("28: put with bits above 0", x.put(0x410041L), BAD_VALUE);
    due("28: put with 0 as the last", x.put(0x4100L), BAD_VALUE);
    due("28: put with a bit at the top", x.put(0x0100000000000041L), BAD_VALUE);
    due("28: put of eight", x.put(Check.packed("abcdefgh")), 10);
    due("28: put of a wrong one in eight", x.put(Check.packed("abc efgh")), BAD_VALUE);
    for (int length = 18; length <= 58; length += 8) due("28: put of eight", x.put(Check.packed("abcdefgh")), length);
    due("28: put of three to 58", x.put(Check.packed("abc")), TOO_MANY);
    due("28: put of a wrong one to 58", x.put(1), BAD_VALUE);
    due("28: put of two to 58", x.put(Check.packed("ab")), 60);
    due("28: put of one to 60", x.put(Check.packed("a")), TOO_MANY);
    due("28: count(8), it is no change", x.count(8), 0);
    PhaseLights y = rig(1, 100);
    Check.text(y, "0@12;r7/");
    Check.text(y, "34");
    due("28: the order of the characters", y.carryOut(0), 2);
    due("28: lamp(0, 0, 2)", y.lamp(0, 0, 2), 12);
    due("28: cue(0, 7, 1)", y.cue(0, 7, 1), 34);
  }

  private static void wipe() {
    PhaseLights x = new PhaseLights();
    due("29: wipe() of nothing", x.wipe(), 0);
    Check.text(x, "0@1;zz");
    due("29: wipe()", x.wipe(), 6);
    due("29: count(7)", x.count(7), 0);
    due("29: fault()", x.fault(), 0);
    Check.text(x, "x");
    due("29: fault()", x.fault(), NONE);
    due("29: count(8), it is no change", x.count(8), 0);
  }

  private static void fault() {
    String[] good = {"x", "g0", "g7", "r0/1", "r7/50", "r1/9", "r1/10", "r1/49", "0@0", "11@100", "10@99", "9@10",
        "1@1", "0>11@5", "11>0@5", "3>3@5", "0+1+2@5", "0>1+5>4+11@5", "x;x", "0@1;r0/1;g0;x"};
    for (String text : good) fault(text, NONE);
    Object[][] bad = {{"y", 0}, {"@", 0}, {";", 0}, {"X", 0}, {"/", 0}, {":", 0}, {"r8", 1}, {"g8", 1}, {"g9", 1},
        {"g", 1}, {"r", 1}, {"gx", 1}, {"g00", 2}, {"g0x", 2}, {"r0", 2}, {"r0;", 2}, {"r00", 2}, {"r0/", 3},
        {"r0/0", 3}, {"r0/x", 3}, {"r0/51", 4}, {"r0/60", 4}, {"r0/500", 5}, {"r0/1x", 4}, {"xx", 1}, {"x;", 2},
        {"x;;", 2}, {"0", 1}, {"00", 1}, {"05", 1}, {"12", 1}, {"1", 1}, {"11", 2}, {"110", 2}, {"20", 1}, {"0;", 1},
        {"0@", 2}, {"0@x", 2}, {"0@00", 3}, {"0@01", 3}, {"0@101", 4}, {"0@110", 4}, {"0@1000", 5}, {"0@999", 4},
        {"0@100x", 5}, {"0@5+1@5", 3}, {"0>", 2}, {"0>@", 2}, {"0>12", 3}, {"0>1>", 3}, {"0>1>2", 3}, {"0+", 2},
        {"0+@5", 2}, {"0>1+", 4}, {"0>1;", 3}, {"0@5;1", 5}, {"x;y", 2}, {"x;x!", 3}, {"0@5!", 3}};
    for (Object[] pair : bad) fault((String) pair[0], (Integer) pair[1]);
    due("30: fault() of nothing", new PhaseLights().fault(), 0);
    StringBuilder full = new StringBuilder("0@100");
    while (full.length() < 60) full.append(";0@10");
    fault(full.toString(), NONE);
    fault(full.substring(0, 59) + "0", NONE);
    fault(full.substring(0, 59) + ";", 60);
    fault(full.substring(0, 59) + "x", 59);
    fault(full.substring(0, 58) + "0;", 60);
  }

  private static void fault(String text, int want) {
    PhaseLights x = new PhaseLights();
    int length = Check.text(x, text);
    due("30: fault() of " + text, x.fault(), want);
    due("30: fault() of " + text + " again", x.fault(), want);
    due("30: the pad stays", x.wipe(), length);
  }

  private static void undo() {
    PhaseLights x = new PhaseLights();
    due("31: undo() of nothing", x.undo(), NOT_POSSIBLE);
    for (int i = 0; i < 8; i++) x.set(0, 1000 + i);
    due("31: count(8)", x.count(8), 6);
    for (int left = 5; left >= 0; left--) {
      due("31: undo()", x.undo(), left);
      due("31: count(4)", x.count(4), 1001 + left);
    }
    due("31: undo(), the oldest are dropped", x.undo(), NOT_POSSIBLE);
    due("31: count(4)", x.count(4), 1001);
    x.set(0, 1001);
    due("31: a change that changes nothing counts", x.count(8), 1);
    x.set(0, 499);
    due("31: an error does not", x.count(8), 1);
    undoOfEach();
    undoLeaves();
  }

  /** Each change by itself is one that can be undone, and is undone whole. */
  private static void undoOfEach() {
    for (int change = 0; change < 15; change++) {
      PhaseLights x = rig(1, 100);
      x.days(1, 1, 2);
      x.at(0, 0, 40);
      x.record(0, 0, 7);
      x.save(0);
      while (x.count(8) > 0) x.undo();
      x.restore(0);
      String before = Shows.picture(x);
      Check.holds("31: change " + change + " is no error", change(x, change) >= 0);
      due("31: count(8) behind change " + change, x.count(8), 2);
      due("31: undo() of change " + change, x.undo(), 1);
      Check.same("31: all is as before change " + change, Shows.picture(x), before);
    }
    undoOfTypes();
    undoOfFades();
  }

  private static int change(PhaseLights x, int change) {
    switch (change) {
      case 0: return x.set(1, 9000);
      case 1: return x.type(500, 1, 1);
      case 2: return x.days(1, 0, 2);
      case 3: return x.hang(1, 0, 0);
      case 4: return x.patch(0, 0, 5);
      case 5: return x.feed(1, 0, 2);
      case 6: return x.spread(1);
      case 7: return x.at(0, 0, 3);
      case 8: return x.record(0, 0, 3);
      case 9: return x.go(0, 0);
      case 10: return x.reset(0);
      case 11: return x.tick(1);
      case 12: return x.restore(0);
      case 13: return x.takeDown(0, 0);
      default:
        Check.text(x, "0@9;r1/9;g1;x");
        return x.carryOut(0);
    }
  }

  private static void undoOfTypes() {
    PhaseLights x = new PhaseLights();
    x.type(1000, 3, 5);
    x.hang(0, 0, 0);
    x.at(0, 0, 100);
    x.record(0, 0, 1);
    x.save(0);
    while (x.count(8) > 0) x.undo();
    x.type(100, 0, 9);
    x.restore(0);
    due("33: cue(0, 0, 2), the watts", x.cue(0, 0, 2), 1000);
    due("33: hire(0, 0, 1), the stock", x.hire(0, 0, 1), 0);
    due("33: hire(0, 0, 2), the price", x.hire(0, 0, 2), 5);
    x.undo();
    due("31: hire(0, 0, 0)", x.hire(0, 0, 0), 0);
    due("31: hang(0, 0, 0)", x.hang(0, 0, 0), 0);
    due("31: hire(0, 0, 1), the stock", x.hire(0, 0, 1), 1);
    due("31: hire(0, 0, 2), the price", x.hire(0, 0, 2), 0);
  }

  /** Both ends of a fade come back. */
  private static void undoOfFades() {
    PhaseLights x = rig(1, 100);
    Check.text(x, "0@80;r0/1;0@40;r1/4;g0");
    x.carryOut(0);
    x.tick(1);
    x.go(0, 1);
    x.tick(1);
    due("31: lamp(0, 0, 3)", x.lamp(0, 0, 3), 70);
    x.go(0, 0);
    x.tick(1);
    due("31: lamp(0, 0, 3)", x.lamp(0, 0, 3), 80);
    x.undo();
    x.undo();
    due("31: of(0, 4)", x.of(0, 4), 3);
    x.tick(1);
    due("31: lamp(0, 0, 3)", x.lamp(0, 0, 3), 60);
    x.tick(2);
    due("31: lamp(0, 0, 3)", x.lamp(0, 0, 3), 40);
  }

  /** Trips, counts and fades come back; the pad and the slots are left. */
  private static void undoLeaves() {
    PhaseLights x = tripping();
    x.go(0, 0);
    x.tick(3);
    due("31: tick(1)", x.tick(1), 2);
    Check.text(x, "x;x");
    x.save(1);
    x.undo();
    due("31: of(0, 4)", x.of(0, 4), 1);
    due("31: of(0, 6)", x.of(0, 6), 0);
    due("31: dimmer(0, 0, 3)", x.dimmer(0, 0, 3), 2);
    due("31: lamp(0, 0, 3)", x.lamp(0, 0, 3), 75);
    due("31: count(7), the pad stays", x.count(7), 3);
    due("31: tick(1)", x.tick(1), 2);
    x.reset(0);
    due("31: restore(1), the slot stays", x.restore(1), 2);
    due("31: of(0, 6)", x.of(0, 6), 0b11);
  }

  private static void save() {
    PhaseLights x = rig(2, 100);
    x.hang(2, 0, 0);
    int before = x.count(8);
    due("32: save(0)", x.save(0), 3);
    due("32: save(1)", x.save(1), 3);
    due("32: count(8), it is no change", x.count(8), before);
    due("32: save(2)", x.save(2), BAD_VALUE);
    due("32: save(-1)", x.save(-1), BAD_VALUE);
    x.takeDown(0, 0);
    due("32: save(0) again", x.save(0), 2);
    due("32: restore(1)", x.restore(1), 3);
    due("32: restore(0)", x.restore(0), 2);
  }

  private static void restore() {
    PhaseLights x = rig(2, 100);
    due("33: restore(0)", x.restore(0), NOT_POSSIBLE);
    due("33: restore(2)", x.restore(2), BAD_VALUE);
    due("33: restore(-1)", x.restore(-1), BAD_VALUE);
    x.save(0);
    due("33: restore(1)", x.restore(1), NOT_POSSIBLE);
    x.set(2, 9);
    x.type(100, 1, 1);
    x.days(2, 3, 4);
    x.feed(1, 1, 0);
    x.takeDown(0, 1);
    Check.text(x, "x");
    due("33: restore(0)", x.restore(0), 2);
    due("33: count(8)", x.count(8), 6);
    due("33: count(6)", x.count(6), 3);
    due("33: count(0)", x.count(0), 1);
    due("33: of(2, 1)", x.of(2, 1), 0);
    due("33: dimmer(1, 1, 0)", x.dimmer(1, 1, 0), 1);
    due("33: count(7), the pad stays", x.count(7), 1);
    x.hang(0, 0, 0);
    due("33: restore(0), the slot keeps it", x.restore(0), 2);
    x.undo();
    due("33: of(0, 2)", x.of(0, 2), 3);
    x.undo();
    x.undo();
    due("33: of(0, 2)", x.of(0, 2), 1);
    due("33: count(6)", x.count(6), 9);
    due("33: restore(0) behind undo", x.restore(0), 2);
  }

  private static void wrongCallsChangeNothing() {
    PhaseLights x = rig(12, 100);
    for (int i = 0; i < 6; i++) x.undo();
    due("count(8)", x.count(8), 0);
    int[] wrong = {x.set(9, 1), x.type(1, 1, 1), x.days(9, 1, 1), x.hang(0, 9, 1), x.takeDown(0, 99), x.patch(0, 0, 99),
        x.feed(0, 0, 9), x.spread(9), x.at(0, 0, 999), x.record(0, 0, 99), x.go(0, 0), x.reset(9), x.tick(999),
        x.carryOut(0), x.restore(0), x.save(9)};
    for (int answer : wrong) Check.holds("an error is below 0", answer < 0 && answer != NONE);
    due("count(8)", x.count(8), 0);
  }
}
