/** The document's sentences on edges: "Types, premieres, rigs" and the promises 1 and 3 to 9. */
public final class RigsTest {
  private static final int NO_SUCH = -1, BAD_VALUE = -2, TOO_MANY = -4, NOT_POSSIBLE = -5, NONE = -6;
  private static final int CAP = 0, LIMIT = 1, HOLD = 2;

  private RigsTest() {
  }

  public static void main(String[] args) {
    withoutLamps();
    sixTypes();
    watts();
    stock();
    price();
    typeErrors();
    threePremieres();
    firstAndLastDay();
    daysBefore();
    daysErrors();
    twelveLamps();
    numberedAsHung();
    othersMoveUp();
    levelsMoveUp();
    cuesMoveUp();
    fadesMoveUp();
    lampOnDimmer();
    firstPhases();
    hangErrors();
    takeDownErrors();
    takeDownReturns();
    patchPrevious();
    patchErrors();
    feedPrevious();
    feedErrors();
    spreadWithoutLoads();
    spreadGreatestFirst();
    spreadLowestDimmer();
    spreadLowestPhase();
    spreadByRecordedCues();
    spreadIfNothingHadTripped();
    spreadReturns();
    spreadErrors();
    Check.end();
  }

  private static void due(String call, long got, long want) {
    Check.due(call, got, want);
  }

  // ---- a new object, types

  private static void withoutLamps() {
    Check.sentence("Promise 1", "Creates premieres without lamps.");
    PhaseLights x = new PhaseLights();
    due("count(0)", x.count(0), 0);
    due("count(7)", x.count(7), 0);
    due("count(8)", x.count(8), 0);
    for (int p = 0; p < 3; p++) {
      due("of(" + p + ", 2)", x.of(p, 2), 0);
      due("lamp(" + p + ", 0, 0)", x.lamp(p, 0, 0), NO_SUCH);
      due("takeDown(" + p + ", 0)", x.takeDown(p, 0), NO_SUCH);
      for (int what = 3; what <= 8; what++) due("of(" + p + ", " + what + ")", x.of(p, what), 0);
    }
    due("undo()", x.undo(), NOT_POSSIBLE);
    due("restore(0)", x.restore(0), NOT_POSSIBLE);
    due("restore(1)", x.restore(1), NOT_POSSIBLE);
    due("save(0)", x.save(0), 0);
  }

  private static void sixTypes() {
    Check.sentence("Types", "There are up to 6 types of lamps, numbered in the order in which they were told.");
    PhaseLights x = new PhaseLights();
    for (int t = 0; t < 6; t++) {
      due("hang of type " + t + " ahead of it", x.hang(0, t, 0), NO_SUCH);
      due("type(" + (100 + t) + ", " + t + ", 1)", x.type(100 + t, t, 1), t);
      due("count(0)", x.count(0), t + 1);
    }
    due("type, the seventh", x.type(500, 1, 1), TOO_MANY);
    due("count(0)", x.count(0), 6);
    for (int t = 0; t < 6; t++) due("hang of type " + t, x.hang(0, t, t), t);
    Shows.light(x, 100, 100, 100, 100, 100, 100);
    for (int t = 0; t < 6; t++) due("lamp(0, " + t + ", 4)", x.lamp(0, t, 4), 100 + t);
    due("hang of type 6", x.hang(0, 6, 0), NO_SUCH);
    for (int i = 0; i < 6; i++) due("undo()", x.undo(), 5 - i);
    PhaseLights y = new PhaseLights();
    for (int t = 0; t < 6; t++) y.type(500, 1, 1);
    y.undo();
    due("type behind undo of the sixth", y.type(600, 1, 1), 5);
    due("type, the seventh", y.type(600, 1, 1), TOO_MANY);
  }

  private static void watts() {
    Check.sentence("Types", "A type has watts (100 to 2000)");
    PhaseLights x = new PhaseLights();
    due("type(99, 1, 1)", x.type(99, 1, 1), BAD_VALUE);
    due("type(2001, 1, 1)", x.type(2001, 1, 1), BAD_VALUE);
    due("type(100, 1, 1)", x.type(100, 1, 1), 0);
    due("type(2000, 1, 1)", x.type(2000, 1, 1), 1);
    x.hang(0, 0, 0);
    x.hang(0, 1, 1);
    Shows.light(x, 100, 100);
    due("lamp(0, 0, 4)", x.lamp(0, 0, 4), 100);
    due("lamp(0, 1, 4)", x.lamp(0, 1, 4), 2000);
  }

  private static void stock() {
    Check.sentence("Types", "a stock (0 to 20)");
    PhaseLights x = new PhaseLights();
    due("type(100, -1, 1)", x.type(100, -1, 1), BAD_VALUE);
    due("type(100, 21, 1)", x.type(100, 21, 1), BAD_VALUE);
    due("type(100, 0, 1)", x.type(100, 0, 1), 0);
    due("type(100, 20, 1)", x.type(100, 20, 1), 1);
    x.hang(0, 0, 0);
    for (int i = 0; i < 21; i++) x.hang(1 + i / 12, 1, 0);
    due("hire(0, 0, 1), none in stock", x.hire(0, 0, 1), 1);
    due("hire(1, 0, 0)", x.hire(1, 0, 0), 21);
    due("hire(1, 0, 1), 20 in stock", x.hire(1, 0, 1), 1);
  }

  private static void price() {
    Check.sentence("Types", "a price for a lamp and a day (0 to 50)");
    PhaseLights x = new PhaseLights();
    due("type(100, 1, -1)", x.type(100, 1, -1), BAD_VALUE);
    due("type(100, 1, 51)", x.type(100, 1, 51), BAD_VALUE);
    due("type(100, 1, 0)", x.type(100, 1, 0), 0);
    due("type(100, 1, 50)", x.type(100, 1, 50), 1);
    x.hang(0, 0, 0);
    x.hang(0, 1, 0);
    due("hire(0, 0, 2)", x.hire(0, 0, 2), 0);
    due("hire(1, 0, 2)", x.hire(1, 0, 2), 50);
    x.days(0, 0, 6);
    due("count(1), seven days", x.count(1), 350);
  }

  private static void typeErrors() {
    Check.sentence("Promise 3", "BAD_VALUE if an argument is out of range; TOO_MANY if there are 6.");
    PhaseLights x = new PhaseLights();
    due("type(0, 0, 0)", x.type(0, 0, 0), BAD_VALUE);
    due("type(99, 21, 51)", x.type(99, 21, 51), BAD_VALUE);
    due("type(100, 0, 0)", x.type(100, 0, 0), 0);
    due("type(2000, 20, 50)", x.type(2000, 20, 50), 1);
    for (int t = 2; t < 6; t++) due("type(100, 0, 0)", x.type(100, 0, 0), t);
    due("type(100, 0, 0) of 6", x.type(100, 0, 0), TOO_MANY);
    due("type(2000, 20, 50) of 6", x.type(2000, 20, 50), TOO_MANY);
    due("type(2001, 20, 50) of 6", x.type(2001, 20, 50), BAD_VALUE);
    due("type(100, 21, 50) of 6", x.type(100, 21, 50), BAD_VALUE);
    due("type(100, 20, 51) of 6", x.type(100, 20, 51), BAD_VALUE);
  }

  // ---- premieres, days

  private static void threePremieres() {
    Check.sentence("Premieres", "There are 3 premieres, 0 to 2, each with .. a rig, 12 dimmers, 3 phases, "
        + "a desk and 8 cues.");
    PhaseLights x = new PhaseLights();
    x.type(100, 1, 1);
    for (int p = 0; p < 3; p++) {
      due("hang(" + p + ", 0, 11)", x.hang(p, 0, 11), 0);
      due("feed(" + p + ", 11, 0)", x.feed(p, 11, 0), 2);
      due("at(" + p + ", 0, " + (p + 1) + ")", x.at(p, 0, p + 1), 0);
      due("record(" + p + ", 7, " + (p + 10) + ")", x.record(p, 7, p + 10), 1);
      due("go(" + p + ", 7)", x.go(p, 7), p + 10);
      due("reset(" + p + ")", x.reset(p), 0);
    }
    for (int p = 0; p < 3; p++) {
      due("lamp(" + p + ", 0, 2)", x.lamp(p, 0, 2), p + 1);
      due("of(" + p + ", 4)", x.of(p, 4), p + 10);
      due("inCue(" + p + ", 7, 0)", x.inCue(p, 7, 0), p + 1);
    }
    for (int p : new int[] {-1, 3}) {
      due("hang(" + p + ", 0, 0)", x.hang(p, 0, 0), NO_SUCH);
      due("takeDown(" + p + ", 0)", x.takeDown(p, 0), NO_SUCH);
      due("days(" + p + ", 0, 0)", x.days(p, 0, 0), NO_SUCH);
      due("of(" + p + ", 2)", x.of(p, 2), NO_SUCH);
    }
  }

  private static void firstAndLastDay() {
    Check.sentence("Premieres", "a first and a last day (0 to 6; at first 0 and 0)");
    PhaseLights x = new PhaseLights();
    for (int p = 0; p < 3; p++) {
      due("of(" + p + ", 0)", x.of(p, 0), 0);
      due("of(" + p + ", 1)", x.of(p, 1), 0);
    }
    x.days(1, 6, 6);
    due("of(1, 0)", x.of(1, 0), 6);
    due("of(1, 1)", x.of(1, 1), 6);
    x.days(1, 0, 6);
    due("of(1, 0)", x.of(1, 0), 0);
    due("of(1, 1)", x.of(1, 1), 6);
    due("of(0, 1)", x.of(0, 1), 0);
    due("of(2, 1)", x.of(2, 1), 0);
  }

  private static void daysBefore() {
    Check.sentence("Promise 4", "Returns how many days it had");
    PhaseLights x = new PhaseLights();
    due("days(2, 0, 6)", x.days(2, 0, 6), 1);
    due("days(2, 3, 3)", x.days(2, 3, 3), 7);
    due("days(2, 5, 6)", x.days(2, 5, 6), 1);
    due("days(2, 5, 6) again", x.days(2, 5, 6), 2);
    due("days(1, 5, 6)", x.days(1, 5, 6), 1);
  }

  private static void daysErrors() {
    Check.sentence("Promise 4", "`first`: 0 to 6 / `last`: first to 6 / BAD_VALUE if a day is out of range");
    for (int first = -1; first <= 7; first++) {
      for (int last = -1; last <= 7; last++) {
        boolean good = first >= 0 && last >= first && last <= 6;
        PhaseLights x = new PhaseLights();
        due("days(0, " + first + ", " + last + ")", x.days(0, first, last), good ? 1 : BAD_VALUE);
        due("of(0, 0)", x.of(0, 0), good ? first : 0);
        due("of(0, 1)", x.of(0, 1), good ? last : 0);
        due("count(8)", x.count(8), good ? 1 : 0);
      }
    }
  }

  // ---- rigs

  private static void twelveLamps() {
    Check.sentence("Rigs", "The rig has up to 12 lamps");
    PhaseLights x = new PhaseLights();
    x.type(100, 1, 1);
    for (int i = 0; i < 12; i++) due("hang(0, 0, 0)", x.hang(0, 0, 0), i);
    due("hang(0, 0, 0), the 13th", x.hang(0, 0, 0), TOO_MANY);
    due("hang(0, 0, NONE), the 13th", x.hang(0, 0, NONE), TOO_MANY);
    due("of(0, 2)", x.of(0, 2), 12);
    due("lamp(0, 11, 0)", x.lamp(0, 11, 0), 0);
    due("lamp(0, 12, 0)", x.lamp(0, 12, 0), NO_SUCH);
    due("hang(1, 0, 0), another rig", x.hang(1, 0, 0), 0);
    due("takeDown(0, 11)", x.takeDown(0, 11), 11);
    due("lamp(0, 11, 0)", x.lamp(0, 11, 0), NO_SUCH);
    due("hang(0, 0, 5), the twelfth again", x.hang(0, 0, 5), 11);
    due("lamp(0, 11, 1)", x.lamp(0, 11, 1), 5);
    due("hang(0, 0, 0), the 13th again", x.hang(0, 0, 0), TOO_MANY);
  }

  private static void numberedAsHung() {
    Check.sentence("Rigs", "lamps, numbered in the order in which they were hung");
    PhaseLights x = new PhaseLights();
    x.type(100, 1, 1);
    x.type(200, 1, 1);
    int[] dimmers = {11, 0, NONE, 5};
    for (int i = 0; i < 4; i++) due("hang(0, " + i % 2 + ", ..)", x.hang(0, i % 2, dimmers[i]), i);
    for (int i = 0; i < 4; i++) {
      due("lamp(0, " + i + ", 0)", x.lamp(0, i, 0), i % 2);
      due("lamp(0, " + i + ", 1)", x.lamp(0, i, 1), dimmers[i]);
    }
  }

  /** Four lamps of four types on the dimmers 8 to 11, of which one is taken down. */
  private static void othersMoveUp() {
    Check.sentence("Rigs", "when one is taken down, those behind it move up");
    for (int gone = 0; gone < 4; gone++) {
      PhaseLights x = new PhaseLights();
      for (int t = 0; t < 4; t++) {
        x.type(100, 1, 1);
        x.hang(2, t, 8 + t);
      }
      due("takeDown(2, " + gone + ")", x.takeDown(2, gone), 3);
      for (int i = 0; i < 3; i++) {
        int was = i < gone ? i : i + 1;
        due("lamp(2, " + i + ", 0)", x.lamp(2, i, 0), was);
        due("lamp(2, " + i + ", 1)", x.lamp(2, i, 1), 8 + was);
      }
      due("lamp(2, 3, 0)", x.lamp(2, 3, 0), NO_SUCH);
      due("dimmer(2, " + (8 + gone) + ", 4)", x.dimmer(2, 8 + gone, 4), 0);
      due("hire(" + gone + ", 0, 0)", x.hire(gone, 0, 0), 0);
    }
  }

  private static void levelsMoveUp() {
    Check.sentence("Rigs", "when one is taken down, those behind it move up");
    for (int gone : new int[] {0, 5, 11}) {
      PhaseLights x = Shows.lit(100, 10, 11, 12, 13, 14, 15, 16, 17, 18, 19, 20, 21);
      for (int i = 0; i < 12; i++) x.at(0, i, 50 + i);
      x.takeDown(0, gone);
      for (int i = 0; i < 11; i++) {
        int was = i < gone ? i : i + 1;
        due("lamp(0, " + i + ", 2) without " + gone, x.lamp(0, i, 2), 50 + was);
        due("lamp(0, " + i + ", 3) without " + gone, x.lamp(0, i, 3), 10 + was);
      }
      due("hang(0, 0, 0)", x.hang(0, 0, 0), 11);
      due("lamp(0, 11, 2)", x.lamp(0, 11, 2), 0);
      due("lamp(0, 11, 3)", x.lamp(0, 11, 3), 0);
    }
  }

  private static void cuesMoveUp() {
    Check.sentence("Rigs", "when one is taken down, those behind it move up");
    PhaseLights x = Shows.rig(4, 100);
    for (int c = 0; c < 8; c++) Shows.cue(x, c, 1 + c, 10 + c, 20 + c, 30 + c, 40 + c);
    x.takeDown(0, 1);
    for (int c = 0; c < 8; c++) {
      due("inCue(0, " + c + ", 0)", x.inCue(0, c, 0), 10 + c);
      due("inCue(0, " + c + ", 1)", x.inCue(0, c, 1), 30 + c);
      due("inCue(0, " + c + ", 2)", x.inCue(0, c, 2), 40 + c);
      due("inCue(0, " + c + ", 3)", x.inCue(0, c, 3), NO_SUCH);
    }
    x.hang(0, 0, 0);
    for (int c = 0; c < 8; c++) due("inCue(0, " + c + ", 3)", x.inCue(0, c, 3), 0);
    due("cue(0, 7, 1)", x.cue(0, 7, 1), 8);
  }

  private static void fadesMoveUp() {
    Check.sentence("Rigs", "when one is taken down, those behind it move up");
    PhaseLights x = Shows.lit(100, 100, 80, 60, 40);
    Shows.cue(x, 0, 4, 0, 20, 100, 0);
    x.go(0, 0);
    x.tick(1);
    due("takeDown(0, 0)", x.takeDown(0, 0), 3);
    int[] atOnce = {65, 70, 30};
    for (int i = 0; i < 3; i++) due("lamp(0, " + i + ", 3) at once", x.lamp(0, i, 3), atOnce[i]);
    x.tick(1);
    int[] halfWay = {50, 80, 20};
    for (int i = 0; i < 3; i++) due("lamp(0, " + i + ", 3) half way", x.lamp(0, i, 3), halfWay[i]);
    due("of(0, 4)", x.of(0, 4), 2);
    x.tick(2);
    int[] atTheEnd = {20, 100, 0};
    for (int i = 0; i < 3; i++) due("lamp(0, " + i + ", 3) at the end", x.lamp(0, i, 3), atTheEnd[i]);
  }

  private static void lampOnDimmer() {
    Check.sentence("Rigs", "A lamp has a type, and is on a dimmer, 0 to 11, or on none.");
    PhaseLights x = new PhaseLights();
    x.type(100, 1, 1);
    int[] dimmers = {0, 11, NONE};
    for (int i = 0; i < 3; i++) {
      due("hang(1, 0, " + dimmers[i] + ")", x.hang(1, 0, dimmers[i]), i);
      due("lamp(1, " + i + ", 1)", x.lamp(1, i, 1), dimmers[i]);
    }
    due("dimmer(1, 0, 4)", x.dimmer(1, 0, 4), 1);
    due("dimmer(1, 11, 4)", x.dimmer(1, 11, 4), 1);
    for (int d = 1; d < 11; d++) due("dimmer(1, " + d + ", 4)", x.dimmer(1, d, 4), 0);
  }

  private static void firstPhases() {
    Check.sentence("Rigs", "at first the dimmer d on the phase that is d left over by 3");
    PhaseLights x = new PhaseLights();
    int[] phases = {0, 1, 2, 0, 1, 2, 0, 1, 2, 0, 1, 2};
    for (int p = 0; p < 3; p++) {
      for (int d = 0; d < 12; d++) due("dimmer(" + p + ", " + d + ", 0)", x.dimmer(p, d, 0), phases[d]);
      due("phase(" + p + ", 0, 3)", x.phase(p, 0, 3), 1 + 8 + 64 + 512);
      due("phase(" + p + ", 1, 3)", x.phase(p, 1, 3), 2 + 16 + 128 + 1024);
      due("phase(" + p + ", 2, 3)", x.phase(p, 2, 3), 4 + 32 + 256 + 2048);
    }
  }

  // ---- hang, takeDown, patch, feed

  private static void hangErrors() {
    Check.sentence("Promise 5", "NO_SUCH if there is no such premiere, type or dimmer; TOO_MANY if the rig has 12 lamps.");
    PhaseLights x = new PhaseLights();
    due("hang(0, 0, 0) without types", x.hang(0, 0, 0), NO_SUCH);
    x.type(100, 1, 1);
    x.type(100, 1, 1);
    due("hang(-1, 0, 0)", x.hang(-1, 0, 0), NO_SUCH);
    due("hang(3, 0, 0)", x.hang(3, 0, 0), NO_SUCH);
    due("hang(0, -1, 0)", x.hang(0, -1, 0), NO_SUCH);
    due("hang(0, 2, 0)", x.hang(0, 2, 0), NO_SUCH);
    due("hang(0, 5, 0)", x.hang(0, 5, 0), NO_SUCH);
    due("hang(0, 1, -1)", x.hang(0, 1, -1), NO_SUCH);
    due("hang(0, 1, 12)", x.hang(0, 1, 12), NO_SUCH);
    due("hang(0, 1, 11)", x.hang(0, 1, 11), 0);
    due("hang(0, 1, 0)", x.hang(0, 1, 0), 1);
    for (int i = 2; i < 12; i++) x.hang(0, 0, 0);
    due("hang(0, 0, 0) of 12", x.hang(0, 0, 0), TOO_MANY);
    due("hang(0, 2, 0) of 12", x.hang(0, 2, 0), NO_SUCH);
    due("hang(0, 0, 12) of 12", x.hang(0, 0, 12), NO_SUCH);
  }

  private static void takeDownErrors() {
    Check.sentence("Promise 6", "NO_SUCH if there is no such premiere or lamp.");
    PhaseLights x = Shows.rig(2, 100);
    due("takeDown(-1, 0)", x.takeDown(-1, 0), NO_SUCH);
    due("takeDown(3, 0)", x.takeDown(3, 0), NO_SUCH);
    due("takeDown(1, 0)", x.takeDown(1, 0), NO_SUCH);
    due("takeDown(0, -1)", x.takeDown(0, -1), NO_SUCH);
    due("takeDown(0, 2)", x.takeDown(0, 2), NO_SUCH);
    due("of(0, 2)", x.of(0, 2), 2);
    due("takeDown(0, 1)", x.takeDown(0, 1), 1);
    due("takeDown(0, 1) again", x.takeDown(0, 1), NO_SUCH);
  }

  private static void takeDownReturns() {
    Check.sentence("Promise 6", "Returns how many lamps the rig has then");
    PhaseLights x = Shows.rig(12, 100);
    x.hang(1, 0, 0);
    due("takeDown(0, 11)", x.takeDown(0, 11), 11);
    for (int left = 10; left >= 0; left--) due("takeDown(0, 0)", x.takeDown(0, 0), left);
    due("takeDown(0, 0) of none", x.takeDown(0, 0), NO_SUCH);
    due("of(1, 2)", x.of(1, 2), 1);
    due("hang(0, 0, 0), the first again", x.hang(0, 0, 0), 0);
  }

  private static void patchPrevious() {
    Check.sentence("Promise 7", "Returns the previous one (NONE)");
    PhaseLights x = Shows.rig(2, 100);
    due("patch(0, 1, 11)", x.patch(0, 1, 11), 1);
    due("patch(0, 1, 11) again", x.patch(0, 1, 11), 11);
    due("patch(0, 1, NONE)", x.patch(0, 1, NONE), 11);
    due("patch(0, 1, NONE) again", x.patch(0, 1, NONE), NONE);
    due("patch(0, 1, 0)", x.patch(0, 1, 0), NONE);
    due("dimmer(0, 0, 4)", x.dimmer(0, 0, 4), 2);
    due("lamp(0, 0, 1)", x.lamp(0, 0, 1), 0);
  }

  private static void patchErrors() {
    Check.sentence("Promise 7", "NO_SUCH if there is no such premiere, lamp or dimmer.");
    PhaseLights x = Shows.rig(2, 100);
    due("patch(-1, 0, 0)", x.patch(-1, 0, 0), NO_SUCH);
    due("patch(3, 0, 0)", x.patch(3, 0, 0), NO_SUCH);
    due("patch(1, 0, 0)", x.patch(1, 0, 0), NO_SUCH);
    due("patch(0, -1, 0)", x.patch(0, -1, 0), NO_SUCH);
    due("patch(0, 2, 0)", x.patch(0, 2, 0), NO_SUCH);
    due("patch(0, 0, -1)", x.patch(0, 0, -1), NO_SUCH);
    due("patch(0, 0, 12)", x.patch(0, 0, 12), NO_SUCH);
    due("lamp(0, 0, 1)", x.lamp(0, 0, 1), 0);
    due("patch(0, 1, 11)", x.patch(0, 1, 11), 1);
    due("patch(0, 0, 0)", x.patch(0, 0, 0), 0);
  }

  private static void feedPrevious() {
    Check.sentence("Promise 8", "Returns the previous one");
    PhaseLights x = new PhaseLights();
    due("feed(0, 11, 0)", x.feed(0, 11, 0), 2);
    due("feed(0, 11, 0) again", x.feed(0, 11, 0), 0);
    due("feed(0, 11, 2)", x.feed(0, 11, 2), 0);
    due("feed(0, 0, 1)", x.feed(0, 0, 1), 0);
    due("dimmer(0, 0, 0)", x.dimmer(0, 0, 0), 1);
    due("dimmer(0, 11, 0)", x.dimmer(0, 11, 0), 2);
    due("dimmer(1, 0, 0)", x.dimmer(1, 0, 0), 0);
  }

  private static void feedErrors() {
    Check.sentence("Promise 8", "NO_SUCH if there is no such premiere, dimmer or phase.");
    PhaseLights x = new PhaseLights();
    due("feed(-1, 0, 0)", x.feed(-1, 0, 0), NO_SUCH);
    due("feed(3, 0, 0)", x.feed(3, 0, 0), NO_SUCH);
    due("feed(0, -1, 0)", x.feed(0, -1, 0), NO_SUCH);
    due("feed(0, 12, 0)", x.feed(0, 12, 0), NO_SUCH);
    due("feed(0, 0, -1)", x.feed(0, 0, -1), NO_SUCH);
    due("feed(0, 0, 3)", x.feed(0, 0, 3), NO_SUCH);
    due("count(8)", x.count(8), 0);
    due("feed(2, 11, 2)", x.feed(2, 11, 2), 2);
    due("feed(0, 0, 0)", x.feed(0, 0, 0), 0);
  }

  // ---- spread

  /** The phases of the dimmers of premiere 0, one digit each. */
  private static String phases(PhaseLights x) {
    StringBuilder told = new StringBuilder();
    for (int d = 0; d < 12; d++) told.append(x.dimmer(0, d, 0));
    return told.toString();
  }

  private static void spreadWithoutLoads() {
    Check.sentence("Promise 9", "each is put on the phase on which the worst loads of the dimmers that were put "
        + "so far are the least together, of several the lowest phase (all are 0)");
    PhaseLights x = new PhaseLights();
    due("spread(0) without lamps", x.spread(0), 8);
    Check.same("phases", phases(x), "000000000000");
    due("spread(0) again", x.spread(0), 0);
    PhaseLights y = Shows.rig(12, 1000);
    for (int i = 0; i < 12; i++) y.at(0, i, 100);
    due("spread(0) without a recorded cue", y.spread(0), 8);
    Check.same("phases", phases(y), "000000000000");
    due("dimmer(1, 1, 0), another premiere", y.dimmer(1, 1, 0), 1);
  }

  private static void spreadGreatestFirst() {
    Check.sentence("Promise 9", "the greatest first");
    PhaseLights x = Shows.rig(4, 1000);
    Shows.cue(x, 0, 1, 10, 30, 20, 40);
    due("spread(0), the dimmers 0, 5, 6, 8, 9 and 11", x.spread(0), 6);
    Check.same("phases: 400 to 0, 300 to 1, 200 to 2, 100 to 2, then none to 1", phases(x), "212011111111");
  }

  private static void spreadLowestDimmer() {
    Check.sentence("Promise 9", "of several the lowest dimmer");
    PhaseLights x = Shows.rig(12, 1000);
    Shows.cue(x, 0, 1, 0, 0, 0, 0, 50, 50, 0, 0, 0, 50, 0, 50);
    x.spread(0);
    due("dimmer(0, 4, 0), the first", x.dimmer(0, 4, 0), 0);
    due("dimmer(0, 5, 0), the second", x.dimmer(0, 5, 0), 1);
    due("dimmer(0, 9, 0), the third", x.dimmer(0, 9, 0), 2);
    due("dimmer(0, 11, 0), the fourth", x.dimmer(0, 11, 0), 0);
  }

  private static void spreadLowestPhase() {
    Check.sentence("Promise 9", "of several the lowest phase");
    PhaseLights x = Shows.rig(5, 1000);
    Shows.cue(x, 0, 1, 80, 40, 40, 40, 40);
    x.spread(0);
    Check.same("phases: 800 to 0; 400 to 1, to 2, to 1, to 2; none to 0", phases(x), "012120000000");
    PhaseLights y = Shows.rig(4, 1000);
    Shows.cue(y, 0, 1, 30, 30, 30, 1);
    y.spread(0);
    Check.same("phases: 300 to 0, to 1, to 2; 10 to 0; none to 1", phases(y), "012011111111");
  }

  private static void spreadByRecordedCues() {
    Check.sentence("Promise 9", "the greatest load that a dimmer would have by a recorded cue");
    PhaseLights x = Shows.rig(3, 1000);
    x.patch(0, 2, 1);
    Shows.cue(x, 0, 1, 60, 50, 0);
    Shows.cue(x, 7, 1, 0, 0, 70);
    Shows.light(x, 0, 0, 65);
    x.at(0, 0, 100);
    x.spread(0);
    due("dimmer(0, 1, 5)", x.dimmer(0, 1, 5), 650);
    due("dimmer(0, 0, 5)", x.dimmer(0, 0, 5), 600);
    due("dimmer(0, 1, 0), 650 of one cue", x.dimmer(0, 1, 0), 0);
    due("dimmer(0, 0, 0), 600", x.dimmer(0, 0, 0), 1);
    x.patch(0, 2, NONE);
    x.spread(0);
    due("dimmer(0, 0, 0), 600", x.dimmer(0, 0, 0), 0);
    due("dimmer(0, 1, 0), 500 without the lamp on none", x.dimmer(0, 1, 0), 1);
  }

  private static void spreadIfNothingHadTripped() {
    Check.sentence("Promise 9", "if nothing had tripped");
    PhaseLights x = Shows.rig(4, 1000);
    x.set(CAP, 999);
    x.set(LIMIT, 1000);
    x.set(HOLD, 1);
    Shows.light(x, 90, 100, 80, 70);
    due("of(0, 6)", x.of(0, 6), 2);
    due("of(0, 7)", x.of(0, 7), 1);
    x.spread(0);
    Check.same("phases: 1000 to 0, 900 to 1, 800 to 2, 700 to 2, then none to 1", phases(x).substring(0, 4), "1022");
    due("of(0, 6) behind it", x.of(0, 6), 2);
    due("of(0, 7) behind it", x.of(0, 7), 1);
  }

  private static void spreadReturns() {
    Check.sentence("Promise 9", "Returns how many dimmers are on another phase then");
    PhaseLights x = Shows.rig(3, 1000);
    Shows.cue(x, 0, 1, 30, 20, 10);
    due("spread(0), nine to phase 2", x.spread(0), 6);
    Check.same("phases", phases(x), "012222222222");
    due("spread(0) again", x.spread(0), 0);
    x.feed(0, 0, 2);
    x.feed(0, 11, 0);
    due("spread(0), two are elsewhere", x.spread(0), 2);
    for (int d = 0; d < 12; d++) x.feed(0, d, d == 0 ? 1 : d == 1 ? 2 : d % 2);
    due("spread(0), all are elsewhere", x.spread(0), 12);
    Check.same("phases", phases(x), "012222222222");
  }

  private static void spreadErrors() {
    Check.sentence("Promise 9", "NO_SUCH if there is no such premiere.");
    PhaseLights x = new PhaseLights();
    due("spread(-1)", x.spread(-1), NO_SUCH);
    due("spread(3)", x.spread(3), NO_SUCH);
    due("spread(NONE)", x.spread(NONE), NO_SUCH);
    due("count(8)", x.count(8), 0);
    due("spread(2)", x.spread(2), 8);
    due("dimmer(2, 11, 0)", x.dimmer(2, 11, 0), 0);
    due("dimmer(0, 11, 0)", x.dimmer(0, 11, 0), 2);
  }
}
