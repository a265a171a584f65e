/** The document's sentences on edges: "Levels, cues" and the promises 10 to 12. */
public final class DeskTest {
  private static final int NO_SUCH = -1, BAD_VALUE = -2, NOT_POSSIBLE = -5, NONE = -6;

  private DeskTest() {
  }

  public static void main(String[] args) {
    wantedLevels();
    givenLevels();
    wantedIsNotGiven();
    recordedOrNot();
    ticksOfCues();
    levelsOfCues();
    hungLater();
    hungLaterOnAFreedPlace();
    cuesOfNoLamps();
    fromNowToTheCue();
    towardsZero();
    together();
    behindAllTicks();
    oneTick();
    fiftyTicks();
    fadeIsOver();
    ticksAtOnce();
    anotherStart();
    sameStart();
    startsWithoutTicks();
    recordedAnew();
    hungDuringAFade();
    hungOnAFreedPlaceDuringAFade();
    recordedWithMoreLamps();
    eachPremiereFades();
    atPrevious();
    atErrors();
    recordReturns();
    recordErrors();
    goReturns();
    goErrors();
    Check.end();
  }

  private static void due(String call, long got, long want) {
    Check.due(call, got, want);
  }

  /** The levels that the lamps of premiere 0 give. */
  private static void levels(String when, PhaseLights x, int... want) {
    for (int i = 0; i < want.length; i++) due("lamp(0, " + i + ", 3) " + when, x.lamp(0, i, 3), want[i]);
  }

  // ---- levels

  private static void wantedLevels() {
    Check.sentence("Levels", "Each lamp has a wanted level at the desk, 0 to 100 (at first 0)");
    PhaseLights x = Shows.rig(12, 100);
    for (int i = 0; i < 12; i++) due("lamp(0, " + i + ", 2)", x.lamp(0, i, 2), 0);
    due("at(0, 11, 100)", x.at(0, 11, 100), 0);
    due("lamp(0, 11, 2)", x.lamp(0, 11, 2), 100);
    due("at(0, 11, 101)", x.at(0, 11, 101), BAD_VALUE);
    due("at(0, 11, -1)", x.at(0, 11, -1), BAD_VALUE);
    due("lamp(0, 11, 2)", x.lamp(0, 11, 2), 100);
    due("at(0, 11, 0)", x.at(0, 11, 0), 100);
    due("lamp(0, 11, 2)", x.lamp(0, 11, 2), 0);
  }

  private static void givenLevels() {
    Check.sentence("Levels", "and a level, 0 to 100 (at first 0), which is what it gives");
    PhaseLights x = Shows.rig(3, 100);
    levels("at first", x, 0, 0, 0);
    Shows.light(x, 100, 0, 1);
    levels("lit", x, 100, 0, 1);
    due("lamp(0, 0, 4)", x.lamp(0, 0, 4), 100);
    due("lamp(0, 1, 4)", x.lamp(0, 1, 4), 0);
    due("lamp(0, 2, 4)", x.lamp(0, 2, 4), 1);
  }

  private static void wantedIsNotGiven() {
    Check.sentence("Levels", "a level .. which is what it gives");
    PhaseLights x = Shows.rig(1, 100);
    x.at(0, 0, 100);
    x.tick(100);
    levels("without a cue", x, 0);
    x.record(0, 0, 1);
    x.tick(100);
    levels("without a start", x, 0);
    x.go(0, 0);
    levels("ahead of the first tick", x, 0);
    x.tick(1);
    levels("behind the first tick", x, 100);
    x.at(0, 0, 30);
    x.tick(1);
    levels("behind at()", x, 100);
    due("lamp(0, 0, 4)", x.lamp(0, 0, 4), 100);
  }

  // ---- cues

  private static void recordedOrNot() {
    Check.sentence("Cues", "A cue is recorded or not (at first).");
    PhaseLights x = Shows.rig(1, 100);
    for (int p = 0; p < 3; p++) {
      for (int c = 0; c < 8; c++) {
        due("cue(" + p + ", " + c + ", 0)", x.cue(p, c, 0), 0);
        due("go(" + p + ", " + c + ")", x.go(p, c), NOT_POSSIBLE);
      }
    }
    x.record(0, 7, 1);
    for (int c = 0; c < 8; c++) due("cue(0, " + c + ", 0)", x.cue(0, c, 0), c == 7 ? 1 : 0);
    due("cue(1, 7, 0)", x.cue(1, 7, 0), 0);
    x.undo();
    due("cue(0, 7, 0) behind undo", x.cue(0, 7, 0), 0);
    due("go(0, 7) behind undo", x.go(0, 7), NOT_POSSIBLE);
  }

  private static void ticksOfCues() {
    Check.sentence("Cues", "A recorded cue has ticks (1 to 50)");
    PhaseLights x = Shows.rig(1, 100);
    due("cue(0, 3, 1), not recorded", x.cue(0, 3, 1), 0);
    due("record(0, 3, 0)", x.record(0, 3, 0), BAD_VALUE);
    due("record(0, 3, -1)", x.record(0, 3, -1), BAD_VALUE);
    due("record(0, 3, 51)", x.record(0, 3, 51), BAD_VALUE);
    due("cue(0, 3, 0)", x.cue(0, 3, 0), 0);
    due("record(0, 3, 1)", x.record(0, 3, 1), 1);
    due("cue(0, 3, 1)", x.cue(0, 3, 1), 1);
    due("record(0, 3, 51) again", x.record(0, 3, 51), BAD_VALUE);
    due("cue(0, 3, 1)", x.cue(0, 3, 1), 1);
    due("record(0, 3, 50)", x.record(0, 3, 50), 1);
    due("cue(0, 3, 1)", x.cue(0, 3, 1), 50);
  }

  private static void levelsOfCues() {
    Check.sentence("Cues", "and a level for each lamp of the rig");
    PhaseLights x = Shows.rig(12, 100);
    int[] levels = {0, 100, 1, 99, 50, 0, 0, 0, 0, 0, 33, 77};
    Shows.cue(x, 0, 1, levels);
    for (int i = 0; i < 12; i++) x.at(0, i, 5);
    for (int i = 0; i < 12; i++) due("inCue(0, 0, " + i + ")", x.inCue(0, 0, i), levels[i]);
    due("inCue(0, 0, 12)", x.inCue(0, 0, 12), NO_SUCH);
    due("inCue(0, 1, 11)", x.inCue(0, 1, 11), NONE);
  }

  private static void hungLater() {
    Check.sentence("Cues", "A lamp that is hung later has the level 0 in it.");
    PhaseLights x = Shows.rig(1, 100);
    for (int c = 0; c < 8; c++) Shows.cue(x, c, 1, 60);
    x.hang(0, 0, 0);
    x.at(0, 1, 90);
    for (int c = 0; c < 8; c++) due("inCue(0, " + c + ", 1)", x.inCue(0, c, 1), 0);
    x.go(0, 4);
    x.tick(1);
    levels("by the cue", x, 60, 0);
    x.record(0, 4, 1);
    due("inCue(0, 4, 1), recorded anew", x.inCue(0, 4, 1), 90);
    due("inCue(0, 5, 1)", x.inCue(0, 5, 1), 0);
  }

  /** The lamp that was on this place had levels in the cues, a wanted one and one that it gave. */
  private static void hungLaterOnAFreedPlace() {
    Check.sentence("Cues", "A lamp that is hung later has the level 0 in it.");
    for (int gone : new int[] {0, 6, 11}) {
      PhaseLights x = Shows.lit(100, 90, 90, 90, 90, 90, 90, 90, 90, 90, 90, 90, 90);
      x.takeDown(0, gone);
      due("hang(0, 0, 0)", x.hang(0, 0, 0), 11);
      due("inCue(0, 7, 11)", x.inCue(0, 7, 11), 0);
      due("inCue(0, 7, 10)", x.inCue(0, 7, 10), 90);
      due("lamp(0, 11, 2)", x.lamp(0, 11, 2), 0);
      due("lamp(0, 11, 3)", x.lamp(0, 11, 3), 0);
      due("lamp(0, 10, 3)", x.lamp(0, 10, 3), 90);
    }
    PhaseLights y = Shows.lit(100, 90, 80);
    y.takeDown(0, 0);
    y.takeDown(0, 0);
    y.hang(0, 0, 0);
    due("inCue(0, 7, 0), the only one", y.inCue(0, 7, 0), 0);
    due("lamp(0, 0, 2)", y.lamp(0, 0, 2), 0);
    levels("of the only one", y, 0);
  }

  private static void cuesOfNoLamps() {
    Check.sentence("Cues", "A recorded cue has .. a level for each lamp of the rig (there is none)");
    PhaseLights x = new PhaseLights();
    due("record(1, 0, 2)", x.record(1, 0, 2), 1);
    due("cue(1, 0, 2)", x.cue(1, 0, 2), 0);
    due("inCue(1, 0, 0)", x.inCue(1, 0, 0), NO_SUCH);
    due("go(1, 0)", x.go(1, 0), 2);
    due("of(1, 4)", x.of(1, 4), 2);
    due("tick(1)", x.tick(1), 0);
    due("of(1, 4)", x.of(1, 4), 1);
    due("tick(1)", x.tick(1), 0);
    due("of(1, 4)", x.of(1, 4), 0);
    due("ifGo(1, 0, 0)", x.ifGo(1, 0, 0), 0);
    due("safeTicks(1, 0)", x.safeTicks(1, 0), 1);
  }

  // ---- fades

  private static void fromNowToTheCue() {
    Check.sentence("Cues", "each lamp goes from its level of now to that of the cue in the cue's ticks");
    PhaseLights x = Shows.lit(100, 0, 100, 100, 0, 40);
    Shows.cue(x, 0, 4, 100, 0, 100, 0, 60);
    due("go(0, 0)", x.go(0, 0), 4);
    levels("after 0 of 4", x, 0, 100, 100, 0, 40);
    int[][] want = {{25, 75, 100, 0, 45}, {50, 50, 100, 0, 50}, {75, 25, 100, 0, 55}, {100, 0, 100, 0, 60}};
    for (int t = 1; t <= 4; t++) {
      due("of(0, 4)", x.of(0, 4), 5 - t);
      x.tick(1);
      levels("after " + t + " of 4", x, want[t - 1]);
    }
    due("of(0, 4)", x.of(0, 4), 0);
  }

  private static void towardsZero() {
    Check.sentence("Cues", "divided by T, rounded towards 0");
    PhaseLights x = Shows.lit(100, 100, 0, 50, 50, 1, 0);
    Shows.cue(x, 0, 3, 0, 100, 49, 51, 0, 1);
    x.go(0, 0);
    x.tick(1);
    levels("after 1 of 3: 100 - 33, 33, 50 - 0, 50 + 0, 1 - 0, 0", x, 67, 33, 50, 50, 1, 0);
    x.tick(1);
    levels("after 2 of 3: 100 - 66, 66, 50 - 0, 50 + 0, 1 - 0, 0", x, 34, 66, 50, 50, 1, 0);
    x.tick(1);
    levels("after 3 of 3", x, 0, 100, 49, 51, 0, 1);
  }

  private static void together() {
    Check.sentence("Cues", "(the other one less this one) times t, divided by T, rounded towards 0, together");
    PhaseLights x = Shows.lit(100, 0, 90, 10, 100);
    Shows.cue(x, 0, 7, 5, 79, 100, 1);
    x.go(0, 0);
    x.tick(3);
    levels("after 3 of 7: 15 / 7, 33 / 7, 270 / 7, 297 / 7", x, 2, 86, 48, 58);
    x.tick(2);
    levels("after 5 of 7: 25 / 7, 55 / 7, 450 / 7, 495 / 7", x, 3, 83, 74, 30);
    x.tick(1);
    levels("after 6 of 7: 30 / 7, 66 / 7, 540 / 7, 594 / 7", x, 4, 81, 87, 16);
  }

  private static void behindAllTicks() {
    Check.sentence("Cues", "So after T ticks it has the level of the cue");
    for (int ticks : new int[] {1, 2, 3, 7, 11, 13, 49, 50}) {
      PhaseLights x = Shows.lit(100, 0, 100, 37, 62);
      Shows.cue(x, 0, ticks, 100, 0, 62, 37);
      x.go(0, 0);
      if (ticks > 1) x.tick(ticks - 1);
      due("of(0, 4) ahead of the last of " + ticks, x.of(0, 4), 1);
      x.tick(1);
      levels("after " + ticks + " of " + ticks, x, 100, 0, 62, 37);
      due("of(0, 4)", x.of(0, 4), 0);
    }
  }

  private static void oneTick() {
    Check.sentence("Cues", "A recorded cue has ticks (1 ..)");
    PhaseLights x = Shows.lit(100, 100, 0);
    Shows.cue(x, 0, 1, 0, 100);
    due("go(0, 0)", x.go(0, 0), 1);
    due("of(0, 4)", x.of(0, 4), 1);
    levels("after 0 of 1", x, 100, 0);
    x.tick(1);
    levels("after 1 of 1", x, 0, 100);
    due("of(0, 4)", x.of(0, 4), 0);
  }

  private static void fiftyTicks() {
    Check.sentence("Cues", "A recorded cue has ticks (.. 50)");
    PhaseLights x = Shows.lit(100, 100, 0, 0, 49);
    Shows.cue(x, 0, 50, 0, 100, 49, 0);
    due("go(0, 0)", x.go(0, 0), 50);
    x.tick(1);
    levels("after 1 of 50", x, 98, 2, 0, 49);
    due("of(0, 4)", x.of(0, 4), 49);
    x.tick(1);
    levels("after 2 of 50", x, 96, 4, 1, 48);
    x.tick(47);
    levels("after 49 of 50", x, 2, 98, 48, 1);
    due("of(0, 4)", x.of(0, 4), 1);
    x.tick(1);
    levels("after 50 of 50", x, 0, 100, 49, 0);
    due("of(0, 4)", x.of(0, 4), 0);
  }

  private static void fadeIsOver() {
    Check.sentence("Cues", "then the fade is over");
    PhaseLights x = Shows.lit(100, 20);
    Shows.cue(x, 0, 3, 80);
    x.go(0, 0);
    x.tick(3);
    due("of(0, 4)", x.of(0, 4), 0);
    x.tick(1);
    levels("one tick behind the end", x, 80);
    due("of(0, 4)", x.of(0, 4), 0);
    x.tick(100);
    levels("far behind the end", x, 80);
    Shows.cue(x, 0, 5, 10);
    x.tick(5);
    levels("when it is recorded anew", x, 80);
    x.takeDown(0, 0);
    x.hang(0, 0, 0);
    x.tick(5);
    levels("of a new lamp", x, 0);
  }

  private static void ticksAtOnce() {
    Check.sentence("Promise 14", "Lets ticks go by.");
    PhaseLights x = Shows.lit(100, 10);
    Shows.cue(x, 0, 10, 83);
    x.go(0, 0);
    x.tick(7);
    levels("after 7 of 10: 10 + 511 / 10", x, 61);
    due("of(0, 4)", x.of(0, 4), 3);
    x.tick(100);
    levels("after more ticks than there are left", x, 83);
    due("of(0, 4)", x.of(0, 4), 0);
  }

  private static void anotherStart() {
    Check.sentence("Cues", "Another start ends the fade that there is where it is.");
    PhaseLights x = Shows.lit(100, 0, 100);
    Shows.cue(x, 0, 3, 100, 0);
    Shows.cue(x, 1, 5, 0, 100);
    x.go(0, 0);
    x.tick(1);
    levels("after 1 of 3", x, 33, 67);
    due("go(0, 1)", x.go(0, 1), 5);
    due("of(0, 4)", x.of(0, 4), 5);
    levels("at the other start", x, 33, 67);
    x.tick(1);
    levels("after 1 of 5: 33 - 33 / 5, 67 + 33 / 5", x, 27, 73);
    x.tick(4);
    levels("after 5 of 5", x, 0, 100);
    due("of(0, 4)", x.of(0, 4), 0);
    x.tick(3);
    levels("behind both", x, 0, 100);
  }

  private static void sameStart() {
    Check.sentence("Cues", "Another start (of the same cue) ends the fade that there is where it is.");
    PhaseLights x = Shows.lit(100, 0);
    Shows.cue(x, 0, 4, 100);
    x.go(0, 0);
    x.tick(3);
    levels("after 3 of 4", x, 75);
    x.go(0, 0);
    due("of(0, 4)", x.of(0, 4), 4);
    x.tick(1);
    levels("after 1 of 4 from 75: 75 + 25 / 4", x, 81);
    x.tick(2);
    levels("after 3 of 4 from 75: 75 + 75 / 4", x, 93);
    x.tick(1);
    levels("after 4 of 4", x, 100);
    x.go(0, 0);
    due("of(0, 4), all levels are there", x.of(0, 4), 4);
    x.tick(1);
    levels("of a start at the goal", x, 100);
    due("of(0, 4)", x.of(0, 4), 3);
  }

  private static void startsWithoutTicks() {
    Check.sentence("Cues", "Another start ends the fade that there is where it is (at its start).");
    PhaseLights x = Shows.lit(100, 50);
    Shows.cue(x, 0, 2, 100);
    Shows.cue(x, 1, 2, 0);
    x.go(0, 0);
    x.go(0, 1);
    x.go(0, 0);
    x.go(0, 1);
    levels("behind four starts", x, 50);
    x.tick(1);
    levels("after 1 of 2 of the last one", x, 25);
    x.tick(1);
    levels("after 2 of 2 of the last one", x, 0);
  }

  private static void recordedAnew() {
    Check.sentence("Cues", "A fade keeps the levels and ticks that the cue had at its start, "
        + "also if the cue is recorded anew.");
    PhaseLights x = Shows.lit(100, 0);
    Shows.cue(x, 0, 4, 100);
    x.go(0, 0);
    Shows.cue(x, 0, 50, 8);
    due("of(0, 4)", x.of(0, 4), 4);
    x.tick(1);
    levels("after 1 of 4", x, 25);
    Shows.cue(x, 0, 1, 9);
    due("of(0, 4)", x.of(0, 4), 3);
    x.tick(1);
    levels("after 2 of 4", x, 50);
    x.tick(2);
    levels("after 4 of 4", x, 100);
    due("of(0, 4)", x.of(0, 4), 0);
    due("go(0, 0)", x.go(0, 0), 1);
    x.tick(1);
    levels("by the new one", x, 9);
  }

  private static void hungDuringAFade() {
    Check.sentence("Cues", "A lamp that is hung during a fade stays at the level 0.");
    PhaseLights x = Shows.lit(100, 50);
    Shows.cue(x, 0, 5, 100);
    x.go(0, 0);
    due("hang(0, 0, 1), ahead of the first tick", x.hang(0, 0, 1), 1);
    x.tick(2);
    due("hang(0, 0, 2), in the middle", x.hang(0, 0, 2), 2);
    Shows.cue(x, 0, 5, 100, 100, 100);
    x.tick(2);
    levels("after 4 of 5", x, 90, 0, 0);
    due("hang(0, 0, 3), ahead of the last tick", x.hang(0, 0, 3), 3);
    x.tick(1);
    levels("after 5 of 5", x, 100, 0, 0, 0);
    x.go(0, 0);
    x.tick(5);
    levels("by the next fade", x, 100, 100, 100, 0);
  }

  private static void hungOnAFreedPlaceDuringAFade() {
    Check.sentence("Cues", "A lamp that is hung during a fade stays at the level 0.");
    for (int gone : new int[] {0, 11}) {
      PhaseLights x = Shows.lit(100, 60, 60, 60, 60, 60, 60, 60, 60, 60, 60, 60, 60);
      Shows.cue(x, 0, 4, 80, 80, 80, 80, 80, 80, 80, 80, 80, 80, 80, 80);
      x.go(0, 0);
      x.tick(1);
      x.takeDown(0, gone);
      x.hang(0, 0, 4);
      due("lamp(0, 11, 3) at once", x.lamp(0, 11, 3), 0);
      x.tick(1);
      due("lamp(0, 11, 3) after 2 of 4", x.lamp(0, 11, 3), 0);
      due("lamp(0, 10, 3) after 2 of 4", x.lamp(0, 10, 3), 70);
      x.tick(2);
      due("lamp(0, 11, 3) after 4 of 4", x.lamp(0, 11, 3), 0);
      due("lamp(0, 0, 3) after 4 of 4", x.lamp(0, 0, 3), 80);
    }
    PhaseLights y = Shows.lit(100, 60);
    Shows.cue(y, 0, 4, 80);
    y.go(0, 0);
    y.takeDown(0, 0);
    due("of(0, 4) without lamps", y.of(0, 4), 4);
    y.hang(0, 0, 0);
    y.tick(4);
    levels("of the only lamp, hung during the fade", y, 0);
  }

  private static void recordedWithMoreLamps() {
    Check.sentence("Promise 11", "Records the wanted levels as a cue.");
    PhaseLights x = Shows.rig(1, 100);
    Shows.cue(x, 0, 1, 100);
    x.hang(0, 0, 1);
    x.hang(0, 0, 2);
    Shows.cue(x, 1, 2, 30, 20, 10);
    x.takeDown(0, 0);
    Shows.cue(x, 2, 3, 7);
    due("inCue(0, 0, 0)", x.inCue(0, 0, 0), 0);
    due("inCue(0, 1, 0)", x.inCue(0, 1, 0), 20);
    due("inCue(0, 1, 1)", x.inCue(0, 1, 1), 10);
    due("inCue(0, 2, 0)", x.inCue(0, 2, 0), 7);
    due("inCue(0, 2, 1)", x.inCue(0, 2, 1), 10);
  }

  private static void eachPremiereFades() {
    Check.sentence("Trips", "A tick goes like this, for each premiere: if there is a fade, "
        + "its levels change by a tick.");
    PhaseLights x = new PhaseLights();
    x.type(100, 20, 1);
    for (int p = 0; p < 3; p++) {
      x.hang(p, 0, 0);
      x.at(p, 0, 60);
      x.record(p, p, 2 + p);
    }
    x.go(0, 0);
    x.go(2, 2);
    x.tick(1);
    due("lamp(0, 0, 3)", x.lamp(0, 0, 3), 30);
    due("lamp(1, 0, 3), without a fade", x.lamp(1, 0, 3), 0);
    due("lamp(2, 0, 3)", x.lamp(2, 0, 3), 15);
    due("go(1, 0), not recorded there", x.go(1, 0), NOT_POSSIBLE);
    x.go(1, 1);
    x.tick(1);
    due("lamp(0, 0, 3)", x.lamp(0, 0, 3), 60);
    due("lamp(1, 0, 3)", x.lamp(1, 0, 3), 20);
    due("lamp(2, 0, 3)", x.lamp(2, 0, 3), 30);
    due("of(0, 4)", x.of(0, 4), 0);
    due("of(1, 4)", x.of(1, 4), 2);
    due("of(2, 4)", x.of(2, 4), 2);
  }

  // ---- at, record, go

  private static void atPrevious() {
    Check.sentence("Promise 10", "Returns the previous one");
    PhaseLights x = Shows.rig(12, 100);
    due("at(0, 11, 100)", x.at(0, 11, 100), 0);
    due("at(0, 11, 0)", x.at(0, 11, 0), 100);
    due("at(0, 0, 1)", x.at(0, 0, 1), 0);
    due("at(0, 0, 1) again", x.at(0, 0, 1), 1);
    due("lamp(0, 11, 2)", x.lamp(0, 11, 2), 0);
  }

  private static void atErrors() {
    Check.sentence("Promise 10", "NO_SUCH if there is no such premiere or lamp; BAD_VALUE if level is out of range.");
    PhaseLights x = Shows.rig(2, 100);
    due("at(-1, 0, 1)", x.at(-1, 0, 1), NO_SUCH);
    due("at(3, 0, 1)", x.at(3, 0, 1), NO_SUCH);
    due("at(1, 0, 1)", x.at(1, 0, 1), NO_SUCH);
    due("at(0, -1, 1)", x.at(0, -1, 1), NO_SUCH);
    due("at(0, 2, 1)", x.at(0, 2, 1), NO_SUCH);
    due("at(0, 12, 1)", x.at(0, 12, 1), NO_SUCH);
    due("at(0, 0, -1)", x.at(0, 0, -1), BAD_VALUE);
    due("at(0, 0, NONE)", x.at(0, 0, NONE), BAD_VALUE);
    due("at(0, 0, 101)", x.at(0, 0, 101), BAD_VALUE);
    due("at(0, 2, 101)", x.at(0, 2, 101), NO_SUCH);
    due("at(0, 0, 100)", x.at(0, 0, 100), 0);
    due("at(0, 1, 0)", x.at(0, 1, 0), 0);
  }

  private static void recordReturns() {
    Check.sentence("Promise 11", "Returns how many cues are recorded then");
    PhaseLights x = Shows.rig(1, 100);
    for (int c = 7; c >= 0; c--) due("record(0, " + c + ", 1)", x.record(0, c, 1), 8 - c);
    due("record(0, 7, 50) again", x.record(0, 7, 50), 8);
    due("record(1, 7, 50)", x.record(1, 7, 50), 1);
    x.undo();
    x.undo();
    x.undo();
    due("record(0, 0, 2) behind undo", x.record(0, 0, 2), 8);
  }

  private static void recordErrors() {
    Check.sentence("Promise 11", "NO_SUCH if there is no such premiere or cue; BAD_VALUE if ticks is out of range. "
        + "/ `ticks`: 1 to 50");
    PhaseLights x = Shows.rig(1, 100);
    due("record(-1, 0, 1)", x.record(-1, 0, 1), NO_SUCH);
    due("record(3, 0, 1)", x.record(3, 0, 1), NO_SUCH);
    due("record(0, -1, 1)", x.record(0, -1, 1), NO_SUCH);
    due("record(0, 8, 1)", x.record(0, 8, 1), NO_SUCH);
    due("record(0, 8, 0)", x.record(0, 8, 0), NO_SUCH);
    due("record(0, 0, 0)", x.record(0, 0, 0), BAD_VALUE);
    due("record(0, 0, -1)", x.record(0, 0, -1), BAD_VALUE);
    due("record(0, 0, 51)", x.record(0, 0, 51), BAD_VALUE);
    due("of(0, 3)", x.of(0, 3), 0);
    due("record(0, 0, 1)", x.record(0, 0, 1), 1);
    due("record(0, 7, 50)", x.record(0, 7, 50), 2);
  }

  private static void goReturns() {
    Check.sentence("Promise 12", "Returns its ticks");
    PhaseLights x = Shows.rig(1, 100);
    x.record(0, 0, 1);
    x.record(0, 7, 50);
    due("go(0, 0)", x.go(0, 0), 1);
    due("go(0, 7)", x.go(0, 7), 50);
    x.record(0, 7, 3);
    due("of(0, 4)", x.of(0, 4), 50);
    due("go(0, 7), recorded anew", x.go(0, 7), 3);
    due("of(0, 4)", x.of(0, 4), 3);
  }

  private static void goErrors() {
    Check.sentence("Promise 12", "NO_SUCH if there is no such premiere or cue; NOT_POSSIBLE if it is not recorded.");
    PhaseLights x = Shows.rig(1, 100);
    x.record(0, 3, 9);
    due("go(-1, 3)", x.go(-1, 3), NO_SUCH);
    due("go(3, 3)", x.go(3, 3), NO_SUCH);
    due("go(0, -1)", x.go(0, -1), NO_SUCH);
    due("go(0, 8)", x.go(0, 8), NO_SUCH);
    for (int c = 0; c < 8; c++) due("go(0, " + c + ")", x.go(0, c), c == 3 ? 9 : NOT_POSSIBLE);
    due("go(1, 3), of another premiere", x.go(1, 3), NOT_POSSIBLE);
    x.tick(2);
    due("go(0, 4)", x.go(0, 4), NOT_POSSIBLE);
    due("of(0, 4), the fade goes on", x.of(0, 4), 7);
  }
}
