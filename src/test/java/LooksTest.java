/** The document's sentences on edges: the promises 16 to 23, what there is. */
public final class LooksTest {
  private static final int NO_SUCH = -1, BAD_VALUE = -2, NONE = -6;
  private static final int CAP = 0, LIMIT = 1, HOLD = 2;

  private LooksTest() {
  }

  public static void main(String[] args) {
    lampWhat();
    lampErrors();
    dimmerWhat();
    dimmerLamps();
    dimmerWorst();
    dimmerErrors();
    phaseWhat();
    phaseGreatest();
    phaseIfNothingHadTripped();
    phaseErrors();
    cueWhat();
    cueNotRecorded();
    cueLoad();
    cueErrors();
    inCueLevel();
    inCueErrors();
    ofWhat();
    ofTicksLeft();
    ofLoads();
    ofTripped();
    ofDifference();
    ofErrors();
    hireOnDays();
    hireNeeded();
    hireShort();
    hireCost();
    hireErrors();
    countTypes();
    countCost();
    countShort();
    countDay();
    countSettings();
    countPad();
    countChanges();
    countErrors();
    Check.end();
  }

  private static void due(String call, long got, long want) {
    Check.due(call, got, want);
  }

  // ---- lamp

  private static void lampWhat() {
    Check.sentence("Promise 16", "`what`: 0 its type, 1 its dimmer (NONE), 2 its wanted level, 3 its level, 4 its load");
    PhaseLights x = new PhaseLights();
    x.type(100, 1, 1);
    x.type(333, 1, 1);
    x.hang(0, 1, 11);
    x.hang(0, 0, NONE);
    int[] first = {1, 11, 0, 0, 0};
    for (int what = 0; what <= 4; what++) due("lamp(0, 0, " + what + ") at first", x.lamp(0, 0, what), first[what]);
    Shows.light(x, 50, 60);
    x.at(0, 0, 100);
    x.at(0, 1, 99);
    int[] want = {1, 11, 100, 50, 166};
    for (int what = 0; what <= 4; what++) due("lamp(0, 0, " + what + ")", x.lamp(0, 0, what), want[what]);
    int[] none = {0, NONE, 99, 60, 0};
    for (int what = 0; what <= 4; what++) due("lamp(0, 1, " + what + ")", x.lamp(0, 1, what), none[what]);
  }

  private static void lampErrors() {
    Check.sentence("Promise 16", "NO_SUCH if there is no such premiere or lamp; BAD_VALUE if what is out of range.");
    PhaseLights x = Shows.rig(12, 100);
    due("lamp(-1, 0, 0)", x.lamp(-1, 0, 0), NO_SUCH);
    due("lamp(3, 0, 0)", x.lamp(3, 0, 0), NO_SUCH);
    due("lamp(1, 0, 0), an empty rig", x.lamp(1, 0, 0), NO_SUCH);
    due("lamp(0, -1, 0)", x.lamp(0, -1, 0), NO_SUCH);
    due("lamp(0, 12, 0)", x.lamp(0, 12, 0), NO_SUCH);
    due("lamp(0, 12, 5)", x.lamp(0, 12, 5), NO_SUCH);
    due("lamp(0, 0, -1)", x.lamp(0, 0, -1), BAD_VALUE);
    due("lamp(0, 0, 5)", x.lamp(0, 0, 5), BAD_VALUE);
    due("lamp(0, 11, 4)", x.lamp(0, 11, 4), 0);
    x.takeDown(0, 3);
    due("lamp(0, 11, 4) behind takeDown", x.lamp(0, 11, 4), NO_SUCH);
  }

  // ---- dimmer

  private static void dimmerWhat() {
    Check.sentence("Promise 17", "`what`: 0 its phase, 1 its load, 2 whether it has tripped (1 or 0), 3 its count");
    PhaseLights x = Shows.lit(1000, 100, 50);
    int[] want = {0, 1000, 0, 0, 1, 1000};
    for (int what = 0; what <= 5; what++) due("dimmer(0, 0, " + what + ")", x.dimmer(0, 0, what), want[what]);
    int[] empty = {2, 0, 0, 0, 0, 0};
    for (int what = 0; what <= 5; what++) due("dimmer(0, 11, " + what + ")", x.dimmer(0, 11, what), empty[what]);
    x.set(CAP, 999);
    x.tick(2);
    due("dimmer(0, 0, 3)", x.dimmer(0, 0, 3), 2);
    due("dimmer(0, 0, 2)", x.dimmer(0, 0, 2), 0);
    x.tick(1);
    int[] tripped = {0, 0, 1, 0, 1, 1000};
    for (int what = 0; what <= 5; what++) {
      due("dimmer(0, 0, " + what + "), tripped", x.dimmer(0, 0, what), tripped[what]);
    }
    due("dimmer(0, 1, 2)", x.dimmer(0, 1, 2), 0);
  }

  private static void dimmerLamps() {
    Check.sentence("Promise 17", "4 how many lamps are on it");
    PhaseLights x = Shows.rig(12, 100);
    for (int d = 0; d < 12; d++) due("dimmer(0, " + d + ", 4)", x.dimmer(0, d, 4), 1);
    for (int i = 0; i < 12; i++) x.patch(0, i, 11);
    due("dimmer(0, 11, 4), all", x.dimmer(0, 11, 4), 12);
    due("dimmer(0, 0, 4), none", x.dimmer(0, 0, 4), 0);
    x.patch(0, 5, NONE);
    due("dimmer(0, 11, 4)", x.dimmer(0, 11, 4), 11);
    x.takeDown(0, 0);
    due("dimmer(0, 11, 4)", x.dimmer(0, 11, 4), 10);
    due("dimmer(0, 0, 4), no lamp behind the last one counts", x.dimmer(0, 0, 4), 0);
    due("dimmer(1, 11, 4), another premiere", x.dimmer(1, 11, 4), 0);
  }

  private static void dimmerWorst() {
    Check.sentence("Promise 17", "5 its worst load (see spread()): the greatest load that a dimmer would have "
        + "by a recorded cue, if nothing had tripped");
    PhaseLights x = Shows.rig(3, 199);
    x.patch(0, 1, 0);
    due("dimmer(0, 0, 5) without a cue", x.dimmer(0, 0, 5), 0);
    Shows.cue(x, 0, 1, 50, 50, 0);
    due("dimmer(0, 0, 5), twice 99", x.dimmer(0, 0, 5), 198);
    Shows.cue(x, 3, 1, 100, 0, 100);
    due("dimmer(0, 0, 5), 199 by the cue 3", x.dimmer(0, 0, 5), 199);
    Shows.cue(x, 7, 1, 1, 100, 0);
    due("dimmer(0, 0, 5), 200 by the cue 7", x.dimmer(0, 0, 5), 200);
    due("dimmer(0, 2, 5), by the cue 3", x.dimmer(0, 2, 5), 199);
    due("dimmer(0, 1, 5)", x.dimmer(0, 1, 5), 0);
    x.at(0, 0, 100);
    due("dimmer(0, 0, 5), what is wanted does not count", x.dimmer(0, 0, 5), 200);
    Shows.cue(x, 7, 1, 0, 0, 0);
    due("dimmer(0, 0, 5), the cue 7 recorded anew", x.dimmer(0, 0, 5), 199);
    x.patch(0, 0, NONE);
    due("dimmer(0, 0, 5)", x.dimmer(0, 0, 5), 99);
    due("dimmer(1, 0, 5), another premiere", x.dimmer(1, 0, 5), 0);
  }

  private static void dimmerErrors() {
    Check.sentence("Promise 17", "NO_SUCH if there is no such premiere or dimmer; BAD_VALUE if what is out of range.");
    PhaseLights x = new PhaseLights();
    due("dimmer(-1, 0, 0)", x.dimmer(-1, 0, 0), NO_SUCH);
    due("dimmer(3, 0, 0)", x.dimmer(3, 0, 0), NO_SUCH);
    due("dimmer(0, -1, 0)", x.dimmer(0, -1, 0), NO_SUCH);
    due("dimmer(0, 12, 0)", x.dimmer(0, 12, 0), NO_SUCH);
    due("dimmer(0, 12, 6)", x.dimmer(0, 12, 6), NO_SUCH);
    due("dimmer(0, 0, -1)", x.dimmer(0, 0, -1), BAD_VALUE);
    due("dimmer(0, 0, 6)", x.dimmer(0, 0, 6), BAD_VALUE);
    due("dimmer(2, 11, 0)", x.dimmer(2, 11, 0), 2);
    due("dimmer(2, 11, 5)", x.dimmer(2, 11, 5), 0);
  }

  // ---- phase

  private static void phaseWhat() {
    Check.sentence("Promise 18", "`what`: 0 its load, 1 whether it has tripped (1 or 0), 2 its count, "
        + "3 its dimmers, as a set");
    PhaseLights x = Shows.lit(1000, 100, 50, 0, 100);
    int[] want = {2000, 0, 0, 585, 2000};
    for (int what = 0; what <= 4; what++) due("phase(0, 0, " + what + ")", x.phase(0, 0, what), want[what]);
    int[] empty = {0, 0, 0, 2340, 0};
    for (int what = 0; what <= 4; what++) due("phase(0, 2, " + what + ")", x.phase(0, 2, what), empty[what]);
    x.set(LIMIT, 1999);
    x.tick(2);
    due("phase(0, 0, 2)", x.phase(0, 0, 2), 2);
    due("phase(0, 0, 1)", x.phase(0, 0, 1), 0);
    x.tick(1);
    int[] tripped = {0, 1, 0, 585, 2000};
    for (int what = 0; what <= 4; what++) {
      due("phase(0, 0, " + what + "), tripped", x.phase(0, 0, what), tripped[what]);
    }
    for (int d = 0; d < 12; d++) x.feed(0, d, 2);
    due("phase(0, 0, 3), no dimmer", x.phase(0, 0, 3), 0);
    due("phase(0, 2, 3), all dimmers", x.phase(0, 2, 3), 4095);
    due("phase(1, 2, 3), another premiere", x.phase(1, 2, 3), 2340);
  }

  private static void phaseGreatest() {
    Check.sentence("Promise 18", "4 the greatest load that it would have by a recorded cue");
    PhaseLights x = Shows.rig(7, 1000);
    due("phase(0, 0, 4) without a cue", x.phase(0, 0, 4), 0);
    Shows.cue(x, 0, 1, 100, 1, 0, 10, 0, 0, 0);
    Shows.cue(x, 7, 1, 0, 2, 0, 50, 0, 0, 70);
    due("phase(0, 0, 4), 1200 by one cue", x.phase(0, 0, 4), 1200);
    due("phase(0, 1, 4)", x.phase(0, 1, 4), 20);
    due("phase(0, 2, 4)", x.phase(0, 2, 4), 0);
    x.feed(0, 6, 1);
    due("phase(0, 0, 4), 1100 by the other", x.phase(0, 0, 4), 1100);
    due("phase(0, 1, 4)", x.phase(0, 1, 4), 720);
    x.patch(0, 0, NONE);
    due("phase(0, 0, 4), 100 or 500", x.phase(0, 0, 4), 500);
    for (int i = 0; i < 7; i++) x.at(0, i, 100);
    due("phase(0, 0, 4), what is wanted does not count", x.phase(0, 0, 4), 500);
  }

  private static void phaseIfNothingHadTripped() {
    Check.sentence("Promise 18", "if nothing had tripped");
    PhaseLights x = Shows.lit(1000, 100, 0, 0, 90);
    x.set(CAP, 999);
    x.set(HOLD, 1);
    due("tick(1)", x.tick(1), 1);
    due("phase(0, 0, 4), a dimmer has tripped", x.phase(0, 0, 4), 1900);
    due("phase(0, 0, 0)", x.phase(0, 0, 0), 900);
    x.reset(0);
    x.set(CAP, 6000);
    x.set(LIMIT, 1899);
    due("tick(1)", x.tick(1), 1);
    due("phase(0, 0, 4), the phase has tripped", x.phase(0, 0, 4), 1900);
    due("phase(0, 0, 0)", x.phase(0, 0, 0), 0);
    due("dimmer(0, 3, 5), the phase has tripped", x.dimmer(0, 3, 5), 900);
  }

  private static void phaseErrors() {
    Check.sentence("Promise 18", "NO_SUCH if there is no such premiere or phase; BAD_VALUE if what is out of range.");
    PhaseLights x = new PhaseLights();
    due("phase(-1, 0, 0)", x.phase(-1, 0, 0), NO_SUCH);
    due("phase(3, 0, 0)", x.phase(3, 0, 0), NO_SUCH);
    due("phase(0, -1, 0)", x.phase(0, -1, 0), NO_SUCH);
    due("phase(0, 3, 0)", x.phase(0, 3, 0), NO_SUCH);
    due("phase(0, 3, 5)", x.phase(0, 3, 5), NO_SUCH);
    due("phase(0, 0, -1)", x.phase(0, 0, -1), BAD_VALUE);
    due("phase(0, 0, 5)", x.phase(0, 0, 5), BAD_VALUE);
    due("phase(2, 2, 4)", x.phase(2, 2, 4), 0);
    due("phase(2, 2, 3)", x.phase(2, 2, 3), 2340);
  }

  // ---- cue, inCue

  private static void cueWhat() {
    Check.sentence("Promise 19", "`what`: 0 whether it is recorded (1 or 0), 1 its ticks (0 if it is not)");
    PhaseLights x = Shows.rig(1, 1000);
    for (int c = 0; c < 8; c++) due("cue(0, " + c + ", 1)", x.cue(0, c, 1), 0);
    x.record(0, 0, 50);
    x.record(0, 7, 1);
    for (int c = 0; c < 8; c++) {
      due("cue(0, " + c + ", 0)", x.cue(0, c, 0), c == 0 || c == 7 ? 1 : 0);
      due("cue(0, " + c + ", 1)", x.cue(0, c, 1), c == 0 ? 50 : c == 7 ? 1 : 0);
    }
    due("cue(1, 0, 0), another premiere", x.cue(1, 0, 0), 0);
    due("cue(1, 0, 1)", x.cue(1, 0, 1), 0);
  }

  private static void cueNotRecorded() {
    Check.sentence("Promise 19", "2 the load of all lamps by it (0 if it is not recorded)");
    PhaseLights x = Shows.lit(1000, 100);
    due("cue(0, 3, 2)", x.cue(0, 3, 2), 0);
    due("cue(0, 7, 2)", x.cue(0, 7, 2), 1000);
    Shows.cue(x, 3, 2, 100);
    due("cue(0, 3, 2), recorded", x.cue(0, 3, 2), 1000);
    x.undo();
    for (int what = 0; what <= 2; what++) due("cue(0, 3, " + what + ") behind undo", x.cue(0, 3, what), 0);
    due("inCue(0, 3, 0) behind undo", x.inCue(0, 3, 0), NONE);
    due("dimmer(0, 0, 5) of cue 7", x.dimmer(0, 0, 5), 1000);
  }

  private static void cueLoad() {
    Check.sentence("Promise 19", "2 the load of all lamps by it, if nothing had tripped "
        + "(.. lamps on no dimmer do not count)");
    PhaseLights x = Shows.rig(4, 199);
    x.patch(0, 3, NONE);
    Shows.cue(x, 2, 9, 50, 50, 100, 100);
    due("cue(0, 2, 2): 99, 99 and 199", x.cue(0, 2, 2), 397);
    x.patch(0, 3, 2);
    due("cue(0, 2, 2) with the fourth", x.cue(0, 2, 2), 596);
    for (int i = 0; i < 4; i++) x.patch(0, i, NONE);
    due("cue(0, 2, 2), all on none", x.cue(0, 2, 2), 0);
    PhaseLights y = Shows.lit(1000, 100, 99);
    y.set(CAP, 999);
    y.set(HOLD, 1);
    y.tick(1);
    y.set(LIMIT, 1000);
    y.hang(0, 0, 1);
    Shows.light(y, 100, 99, 99);
    y.tick(1);
    due("of(0, 6)", y.of(0, 6), 3);
    due("cue(0, 7, 2), all has tripped", y.cue(0, 7, 2), 2980);
    PhaseLights z = Shows.lit(2000, 100, 100, 100, 100, 100, 100, 100, 100, 100, 100, 100, 100);
    due("cue(0, 7, 2), twelve of 2000", z.cue(0, 7, 2), 24000);
    z.set(LIMIT, 1000);
    z.set(HOLD, 1);
    z.tick(1);
    due("of(0, 7)", z.of(0, 7), 7);
    due("cue(0, 7, 2), all phases have tripped", z.cue(0, 7, 2), 24000);
  }

  private static void cueErrors() {
    Check.sentence("Promise 19", "NO_SUCH if there is no such premiere or cue; BAD_VALUE if what is out of range.");
    PhaseLights x = Shows.rig(1, 1000);
    due("cue(-1, 0, 0)", x.cue(-1, 0, 0), NO_SUCH);
    due("cue(3, 0, 0)", x.cue(3, 0, 0), NO_SUCH);
    due("cue(0, -1, 0)", x.cue(0, -1, 0), NO_SUCH);
    due("cue(0, 8, 0)", x.cue(0, 8, 0), NO_SUCH);
    due("cue(0, 8, 3)", x.cue(0, 8, 3), NO_SUCH);
    due("cue(0, 0, -1)", x.cue(0, 0, -1), BAD_VALUE);
    due("cue(0, 0, 3)", x.cue(0, 0, 3), BAD_VALUE);
    x.record(0, 0, 1);
    due("cue(0, 0, 3), recorded", x.cue(0, 0, 3), BAD_VALUE);
    due("cue(2, 7, 2)", x.cue(2, 7, 2), 0);
  }

  private static void inCueLevel() {
    Check.sentence("Promise 20", "Returns the level of a lamp by a cue.");
    PhaseLights x = Shows.rig(12, 1000);
    Shows.cue(x, 7, 1, 0, 100, 1, 2, 3, 4, 5, 6, 7, 8, 9, 99);
    due("inCue(0, 7, 0)", x.inCue(0, 7, 0), 0);
    due("inCue(0, 7, 1)", x.inCue(0, 7, 1), 100);
    due("inCue(0, 7, 11)", x.inCue(0, 7, 11), 99);
    x.patch(0, 1, NONE);
    due("inCue(0, 7, 1), on no dimmer", x.inCue(0, 7, 1), 100);
  }

  private static void inCueErrors() {
    Check.sentence("Promise 20", "NO_SUCH if there is no such premiere, cue or lamp; NONE if the cue is not recorded.");
    PhaseLights x = Shows.rig(2, 1000);
    x.record(0, 0, 1);
    due("inCue(-1, 0, 0)", x.inCue(-1, 0, 0), NO_SUCH);
    due("inCue(3, 0, 0)", x.inCue(3, 0, 0), NO_SUCH);
    due("inCue(0, -1, 0)", x.inCue(0, -1, 0), NO_SUCH);
    due("inCue(0, 8, 0)", x.inCue(0, 8, 0), NO_SUCH);
    due("inCue(0, 0, -1)", x.inCue(0, 0, -1), NO_SUCH);
    due("inCue(0, 0, 2)", x.inCue(0, 0, 2), NO_SUCH);
    due("inCue(0, 1, 2), not recorded", x.inCue(0, 1, 2), NO_SUCH);
    due("inCue(0, 1, 1), not recorded", x.inCue(0, 1, 1), NONE);
    due("inCue(0, 7, 0), not recorded", x.inCue(0, 7, 0), NONE);
    due("inCue(0, 0, 1)", x.inCue(0, 0, 1), 0);
    due("inCue(1, 0, 0), an empty rig", x.inCue(1, 0, 0), NO_SUCH);
  }

  // ---- of

  private static void ofWhat() {
    Check.sentence("Promise 21", "`what`: 0 its first day, 1 its last day, 2 its lamps, 3 the recorded cues, as a set");
    PhaseLights x = Shows.rig(12, 1000);
    x.days(0, 2, 6);
    x.record(0, 7, 1);
    x.record(0, 0, 1);
    int[] want = {2, 6, 12, 129};
    int[] other = {0, 0, 0, 0};
    for (int what = 0; what <= 3; what++) {
      due("of(0, " + what + ")", x.of(0, what), want[what]);
      due("of(1, " + what + ")", x.of(1, what), other[what]);
      due("of(2, " + what + ")", x.of(2, what), other[what]);
    }
  }

  private static void ofTicksLeft() {
    Check.sentence("Promise 21", "4 the ticks that its fade still takes (0 without one)");
    PhaseLights x = Shows.rig(1, 1000);
    due("of(0, 4), no fade yet", x.of(0, 4), 0);
    x.record(0, 0, 50);
    due("of(0, 4), not started", x.of(0, 4), 0);
    x.go(0, 0);
    for (int left = 50; left > 0; left--) {
      due("of(0, 4)", x.of(0, 4), left);
      x.tick(1);
    }
    due("of(0, 4), over", x.of(0, 4), 0);
    x.tick(1);
    due("of(0, 4), one tick later", x.of(0, 4), 0);
    due("of(1, 4), another premiere", x.of(1, 4), 0);
  }

  private static void ofLoads() {
    Check.sentence("Promise 21", "5 its load");
    PhaseLights x = Shows.lit(199, 50, 50, 100);
    due("of(0, 5)", x.of(0, 5), 397);
    x.patch(0, 2, NONE);
    due("of(0, 5), one on none", x.of(0, 5), 198);
    due("of(1, 5)", x.of(1, 5), 0);
    PhaseLights y = Shows.lit(2000, 100, 100, 100, 100, 100, 100, 100, 100, 100, 100, 100, 100);
    due("of(0, 5), twelve of 2000", y.of(0, 5), 24000);
    y.set(CAP, 1999);
    y.set(HOLD, 1);
    y.tick(1);
    due("of(0, 5), all has tripped", y.of(0, 5), 0);
  }

  private static void ofTripped() {
    Check.sentence("Promise 21", "6 the dimmers that have tripped, 7 the phases that have, as sets");
    PhaseLights x = Shows.lit(1000, 100, 0, 0, 0, 0, 0, 0, 0, 99, 0, 0, 100);
    x.set(CAP, 999);
    x.set(LIMIT, 1000);
    x.set(HOLD, 1);
    x.hang(1, 0, 0);
    due("of(0, 6)", x.of(0, 6), 0);
    due("of(0, 7)", x.of(0, 7), 0);
    x.tick(1);
    due("of(0, 6), 0 and 11", x.of(0, 6), 2049);
    due("of(0, 7), none", x.of(0, 7), 0);
    x.set(CAP, 6000);
    Shows.light(x, 0, 50, 50, 0, 51, 0, 0, 0, 51);
    due("of(0, 7), 1 and 2", x.of(0, 7), 6);
    due("of(0, 6)", x.of(0, 6), 2049);
    due("of(1, 6)", x.of(1, 6), 0);
    due("of(1, 7)", x.of(1, 7), 0);
  }

  private static void ofDifference() {
    Check.sentence("Promise 21", "8 the least phase load taken from the greatest one");
    int[][] levels = {{0, 0, 0}, {50, 50, 50}, {10, 20, 40}, {40, 20, 10}, {20, 40, 10}, {20, 10, 40}, {10, 40, 20},
        {0, 0, 1}, {1, 0, 0}, {100, 99, 100}, {0, 100, 100}};
    int[] want = {0, 0, 300, 300, 300, 300, 300, 10, 10, 10, 1000};
    for (int i = 0; i < levels.length; i++) {
      PhaseLights x = Shows.lit(1000, levels[i]);
      due("of(0, 8) of " + levels[i][0] + ", " + levels[i][1] + ", " + levels[i][2], x.of(0, 8), want[i]);
    }
    PhaseLights y = Shows.lit(1000, 100, 30, 20);
    y.set(CAP, 999);
    y.set(HOLD, 1);
    y.tick(1);
    due("of(0, 8), the greatest has tripped", y.of(0, 8), 300);
    due("of(1, 8), without lamps", y.of(1, 8), 0);
  }

  private static void ofErrors() {
    Check.sentence("Promise 21", "NO_SUCH if there is no such premiere; BAD_VALUE if what is out of range.");
    PhaseLights x = new PhaseLights();
    due("of(-1, 0)", x.of(-1, 0), NO_SUCH);
    due("of(3, 0)", x.of(3, 0), NO_SUCH);
    due("of(3, 9)", x.of(3, 9), NO_SUCH);
    due("of(0, -1)", x.of(0, -1), BAD_VALUE);
    due("of(0, 9)", x.of(0, 9), BAD_VALUE);
    due("of(2, 8)", x.of(2, 8), 0);
    due("of(2, 0)", x.of(2, 0), 0);
  }

  // ---- hire

  private static void hireOnDays() {
    Check.sentence("Promise 22", "of all lamps that hang in premieres of this day / `day`: 0 to 6");
    PhaseLights x = new PhaseLights();
    x.type(100, 20, 1);
    x.hang(0, 0, 0);
    x.days(0, 2, 4);
    for (int day = 0; day <= 6; day++) due("hire(0, " + day + ", 0)", x.hire(0, day, 0), day < 2 || day > 4 ? 0 : 1);
    x.days(0, 0, 6);
    for (int day = 0; day <= 6; day++) due("hire(0, " + day + ", 0)", x.hire(0, day, 0), 1);
    x.days(0, 6, 6);
    for (int day = 0; day <= 6; day++) due("hire(0, " + day + ", 0)", x.hire(0, day, 0), day < 6 ? 0 : 1);
    x.days(0, 0, 0);
    for (int day = 0; day <= 6; day++) due("hire(0, " + day + ", 0)", x.hire(0, day, 0), day > 0 ? 0 : 1);
  }

  private static void hireNeeded() {
    Check.sentence("Promise 22", "0 how many are needed");
    PhaseLights x = new PhaseLights();
    x.type(100, 20, 1);
    x.type(100, 20, 1);
    due("hire(0, 0, 0), no lamps", x.hire(0, 0, 0), 0);
    for (int p = 0; p < 3; p++) for (int i = 0; i < 12; i++) x.hang(p, 0, i % 2 == 0 ? NONE : i);
    due("hire(0, 0, 0), three full rigs", x.hire(0, 0, 0), 36);
    due("hire(1, 0, 0)", x.hire(1, 0, 0), 0);
    x.days(1, 1, 1);
    due("hire(0, 0, 0), two of them", x.hire(0, 0, 0), 24);
    due("hire(0, 1, 0), one of them", x.hire(0, 1, 0), 12);
    x.takeDown(1, 0);
    x.hang(1, 1, 0);
    due("hire(0, 1, 0)", x.hire(0, 1, 0), 11);
    due("hire(1, 1, 0)", x.hire(1, 1, 0), 1);
    x.takeDown(1, 11);
    due("hire(1, 1, 0), taken down", x.hire(1, 1, 0), 0);
    due("hire(0, 1, 0), no lamp behind the last one counts", x.hire(0, 1, 0), 11);
  }

  private static void hireShort() {
    Check.sentence("Promise 22", "1 how many are short: by how much they are more than the stock");
    PhaseLights x = new PhaseLights();
    x.type(100, 2, 5);
    for (int n = 1; n <= 4; n++) {
      x.hang(0, 0, 0);
      due("hire(0, 0, 1) of " + n, x.hire(0, 0, 1), n < 3 ? 0 : n - 2);
    }
    due("hire(0, 1, 1), another day", x.hire(0, 1, 1), 0);
    x.type(100, 0, 5);
    x.hang(1, 1, 0);
    due("hire(1, 0, 1), none in stock", x.hire(1, 0, 1), 1);
    PhaseLights y = new PhaseLights();
    y.type(100, 20, 5);
    for (int i = 0; i < 20; i++) y.hang(i % 2, 0, 0);
    due("hire(0, 0, 1), 20 of 20", y.hire(0, 0, 1), 0);
    y.hang(2, 0, 0);
    due("hire(0, 0, 1), 21 of 20", y.hire(0, 0, 1), 1);
  }

  private static void hireCost() {
    Check.sentence("Promise 22", "2 what they cost: the price of those that are not short");
    PhaseLights x = new PhaseLights();
    x.type(100, 2, 50);
    due("hire(0, 0, 2) of none", x.hire(0, 0, 2), 0);
    for (int n = 1; n <= 4; n++) {
      x.hang(0, 0, 0);
      due("hire(0, 0, 2) of " + n, x.hire(0, 0, 2), n < 2 ? 50 : 100);
    }
    due("hire(0, 1, 2), another day", x.hire(0, 1, 2), 0);
    x.type(100, 0, 50);
    x.type(100, 5, 0);
    x.hang(0, 1, 0);
    x.hang(0, 2, 0);
    due("hire(1, 0, 2), none in stock", x.hire(1, 0, 2), 0);
    due("hire(2, 0, 2), for nothing", x.hire(2, 0, 2), 0);
  }

  private static void hireErrors() {
    Check.sentence("Promise 22", "NO_SUCH if there is no such type; BAD_VALUE if another argument is out of range.");
    PhaseLights x = new PhaseLights();
    due("hire(0, 0, 0) without types", x.hire(0, 0, 0), NO_SUCH);
    x.type(100, 1, 1);
    due("hire(-1, 0, 0)", x.hire(-1, 0, 0), NO_SUCH);
    due("hire(1, 0, 0)", x.hire(1, 0, 0), NO_SUCH);
    due("hire(1, 7, 3)", x.hire(1, 7, 3), NO_SUCH);
    due("hire(0, -1, 0)", x.hire(0, -1, 0), BAD_VALUE);
    due("hire(0, 7, 0)", x.hire(0, 7, 0), BAD_VALUE);
    due("hire(0, 0, -1)", x.hire(0, 0, -1), BAD_VALUE);
    due("hire(0, 0, 3)", x.hire(0, 0, 3), BAD_VALUE);
    due("hire(0, 6, 2)", x.hire(0, 6, 2), 0);
    for (int t = 1; t < 6; t++) x.type(100, 1, 1);
    due("hire(5, 6, 2)", x.hire(5, 6, 2), 0);
    due("hire(6, 0, 0)", x.hire(6, 0, 0), NO_SUCH);
  }

  // ---- count

  private static void countTypes() {
    Check.sentence("Promise 23", "`what`: 0 types");
    PhaseLights x = new PhaseLights();
    for (int t = 0; t < 6; t++) {
      due("count(0)", x.count(0), t);
      x.type(100, 1, 1);
    }
    due("count(0)", x.count(0), 6);
    x.type(100, 1, 1);
    due("count(0)", x.count(0), 6);
    x.undo();
    due("count(0) behind undo", x.count(0), 5);
  }

  private static void countCost() {
    Check.sentence("Promise 23", "1 the cost of all types on all days");
    PhaseLights x = new PhaseLights();
    due("count(1) of nothing", x.count(1), 0);
    for (int t = 0; t < 6; t++) x.type(100, 1, t == 5 ? 50 : t);
    x.hang(0, 0, 0);
    x.hang(0, 5, 0);
    x.hang(0, 5, 0);
    due("count(1), one of two", x.count(1), 50);
    x.days(0, 0, 6);
    due("count(1), on seven days", x.count(1), 350);
    x.hang(1, 1, 0);
    x.hang(1, 5, 0);
    x.days(1, 6, 6);
    due("count(1), and one on the last day", x.count(1), 351);
    PhaseLights y = new PhaseLights();
    y.type(100, 20, 50);
    for (int p = 0; p < 3; p++) {
      for (int i = 0; i < 12; i++) y.hang(p, 0, 0);
      y.days(p, 0, 6);
    }
    due("count(1), all there can be of one type", y.count(1), 7000);
  }

  private static void countShort() {
    Check.sentence("Promise 23", "2 how many lamps are short, all types and days together");
    PhaseLights x = new PhaseLights();
    due("count(2) of nothing", x.count(2), 0);
    for (int t = 0; t < 6; t++) x.type(100, t == 5 ? 0 : 1, 1);
    x.hang(0, 0, 0);
    due("count(2), one of one", x.count(2), 0);
    x.hang(0, 0, 0);
    x.hang(0, 5, 0);
    due("count(2), one and one", x.count(2), 2);
    x.days(0, 0, 6);
    due("count(2), on seven days", x.count(2), 14);
    x.hang(1, 0, 0);
    x.hang(1, 1, 0);
    x.days(1, 6, 6);
    due("count(2), and one on the last day", x.count(2), 15);
    PhaseLights y = new PhaseLights();
    y.type(100, 0, 50);
    for (int p = 0; p < 3; p++) {
      for (int i = 0; i < 12; i++) y.hang(p, 0, 0);
      y.days(p, 0, 6);
    }
    due("count(2), all there can be", y.count(2), 252);
  }

  private static void countDay() {
    Check.sentence("Promise 23", "3 the day on which the most lamps are needed, of several the first one");
    PhaseLights x = new PhaseLights();
    due("count(3), no lamps at all", x.count(3), 0);
    x.type(100, 0, 0);
    x.type(100, 0, 0);
    x.days(0, 6, 6);
    due("count(3), no lamps", x.count(3), 0);
    x.hang(0, 0, 0);
    due("count(3), one on the last day", x.count(3), 6);
    x.hang(1, 1, 0);
    x.days(1, 3, 5);
    due("count(3), one on 3 to 6", x.count(3), 3);
    x.hang(0, 1, 0);
    due("count(3), two types on the last day", x.count(3), 6);
    x.hang(2, 0, 0);
    x.days(2, 5, 5);
    due("count(3), two on 5, two on 6", x.count(3), 5);
    x.days(2, 0, 6);
    due("count(3), three on 6, two on 3 to 5", x.count(3), 6);
    x.days(0, 0, 0);
    due("count(3), three on 0", x.count(3), 0);
    x.days(0, 0, 2);
    due("count(3), three on 0 to 2", x.count(3), 0);
  }

  private static void countSettings() {
    Check.sentence("Promise 23", "4 to 6 the settings");
    PhaseLights x = new PhaseLights();
    due("count(4)", x.count(4), 2400);
    due("count(5)", x.count(5), 7000);
    due("count(6)", x.count(6), 3);
    x.set(CAP, 501);
    x.set(LIMIT, 1001);
    x.set(HOLD, 2);
    due("count(4)", x.count(4), 501);
    due("count(5)", x.count(5), 1001);
    due("count(6)", x.count(6), 2);
  }

  private static void countPad() {
    Check.sentence("Promise 23", "7 the length of the pad");
    PhaseLights x = new PhaseLights();
    for (int n = 0; n <= 60; n++) {
      due("count(7)", x.count(7), n);
      x.put('x');
    }
    due("count(7), full", x.count(7), 60);
    x.wipe();
    due("count(7) behind wipe()", x.count(7), 0);
  }

  private static void countChanges() {
    Check.sentence("Promise 23", "8 how many changes can be undone");
    PhaseLights x = new PhaseLights();
    for (int n = 0; n <= 9; n++) {
      due("count(8)", x.count(8), Math.min(n, 6));
      x.tick(1);
    }
    for (int left = 5; left >= 0; left--) {
      x.undo();
      due("count(8)", x.count(8), left);
    }
    x.undo();
    due("count(8)", x.count(8), 0);
  }

  private static void countErrors() {
    Check.sentence("Promise 23", "BAD_VALUE if what is out of range.");
    PhaseLights x = new PhaseLights();
    due("count(-1)", x.count(-1), BAD_VALUE);
    due("count(9)", x.count(9), BAD_VALUE);
    due("count(NONE)", x.count(NONE), BAD_VALUE);
    due("count(0)", x.count(0), 0);
    due("count(8)", x.count(8), 0);
  }
}
