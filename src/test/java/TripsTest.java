/** The document's sentences on edges: "Loads, trips" and the promises 13 and 14. */
public final class TripsTest {
  private static final int NO_SUCH = -1, BAD_VALUE = -2, NONE = -6;
  private static final int CAP = 0, LIMIT = 1, HOLD = 2;

  private TripsTest() {
  }

  public static void main(String[] args) {
    onNoDimmer();
    dimmerHasTripped();
    phaseHasTripped();
    wattsTimesLevel();
    sumOfLamps();
    sumOfDimmers();
    levelsThenDimmers();
    aboveCap();
    otherwiseZero();
    capIsRead();
    countsStayBetweenTicks();
    holdOfOne();
    holdOfThree();
    holdOfTwenty();
    holdOrMore();
    holdOrMoreOfPhases();
    countsAheadOfTrips();
    aboveLimit();
    phasesBehindDimmers();
    phaseAndOtherDimmer();
    dimmersOfATrippedPhase();
    phaseCountsOtherwiseZero();
    staysTripped();
    staysTrippedOnOtherWires();
    levelsOfTheTripped();
    untilReset();
    resetMakesCountsZero();
    resetOfOnePremiere();
    tripsAgain();
    resetReturns();
    resetOfFourteen();
    resetErrors();
    resetLeavesTheFade();
    tickRange();
    tickReturns();
    tickOfAllPremieres();
    Check.end();
  }

  private static void due(String call, long got, long want) {
    Check.due(call, got, want);
  }

  /** Lit, and then with these settings. */
  private static PhaseLights under(int cap, int limit, int hold, int watts, int... levels) {
    PhaseLights x = Shows.lit(watts, levels);
    x.set(CAP, cap);
    x.set(LIMIT, limit);
    x.set(HOLD, hold);
    return x;
  }

  // ---- loads

  private static void onNoDimmer() {
    Check.sentence("Loads", "The load of a lamp is 0, if it is on no dimmer");
    PhaseLights x = Shows.lit(1000, 100, 100);
    due("lamp(0, 1, 4)", x.lamp(0, 1, 4), 1000);
    x.patch(0, 1, NONE);
    due("lamp(0, 1, 4)", x.lamp(0, 1, 4), 0);
    due("lamp(0, 1, 3)", x.lamp(0, 1, 3), 100);
    due("of(0, 5)", x.of(0, 5), 1000);
    for (int d = 0; d < 12; d++) due("dimmer(0, " + d + ", 1)", x.dimmer(0, d, 1), d == 0 ? 1000 : 0);
    x.set(CAP, 500);
    x.set(HOLD, 1);
    due("tick(1)", x.tick(1), 1);
    x.patch(0, 1, 11);
    due("lamp(0, 1, 4) on a dimmer again", x.lamp(0, 1, 4), 1000);
  }

  private static void dimmerHasTripped() {
    Check.sentence("Loads", "or its dimmer .. has tripped");
    PhaseLights x = under(999, 20000, 1, 1000, 100, 99);
    due("tick(1)", x.tick(1), 1);
    due("lamp(0, 0, 4)", x.lamp(0, 0, 4), 0);
    due("dimmer(0, 0, 1)", x.dimmer(0, 0, 1), 0);
    due("lamp(0, 1, 4)", x.lamp(0, 1, 4), 990);
    due("phase(0, 0, 0)", x.phase(0, 0, 0), 0);
    due("of(0, 5)", x.of(0, 5), 990);
    due("patch(0, 0, 3)", x.patch(0, 0, 3), 0);
    due("lamp(0, 0, 4) on another dimmer", x.lamp(0, 0, 4), 1000);
    x.patch(0, 1, 0);
    due("lamp(0, 1, 4) on the one that has tripped", x.lamp(0, 1, 4), 0);
  }

  private static void phaseHasTripped() {
    Check.sentence("Loads", "or the phase of that, has tripped");
    PhaseLights x = under(6000, 1000, 1, 1000, 100, 100, 100, 1);
    due("tick(1)", x.tick(1), 1);
    due("of(0, 7)", x.of(0, 7), 1);
    due("lamp(0, 0, 4)", x.lamp(0, 0, 4), 0);
    due("lamp(0, 3, 4)", x.lamp(0, 3, 4), 0);
    due("lamp(0, 1, 4)", x.lamp(0, 1, 4), 1000);
    due("dimmer(0, 3, 1)", x.dimmer(0, 3, 1), 0);
    due("dimmer(0, 3, 2)", x.dimmer(0, 3, 2), 0);
    due("phase(0, 0, 0)", x.phase(0, 0, 0), 0);
    due("of(0, 5)", x.of(0, 5), 2000);
    x.feed(0, 3, 1);
    due("lamp(0, 3, 4) on another phase", x.lamp(0, 3, 4), 10);
    x.feed(0, 1, 0);
    due("lamp(0, 1, 4) on the one that has tripped", x.lamp(0, 1, 4), 0);
    due("of(0, 8)", x.of(0, 8), 1000);
  }

  private static void wattsTimesLevel() {
    Check.sentence("Loads", "otherwise its watts times its level, divided by 100");
    PhaseLights x = Shows.lit(1999, 0, 1, 50, 99, 100);
    int[] want = {0, 19, 999, 1979, 1999};
    for (int i = 0; i < 5; i++) due("lamp(0, " + i + ", 4)", x.lamp(0, i, 4), want[i]);
  }

  private static void sumOfLamps() {
    Check.sentence("Loads", "The load of a dimmer is that of all of its lamps");
    PhaseLights x = Shows.lit(199, 50, 50, 50);
    for (int i = 0; i < 3; i++) x.patch(0, i, 4);
    due("dimmer(0, 4, 1), three of 99", x.dimmer(0, 4, 1), 297);
    due("dimmer(0, 0, 1), none", x.dimmer(0, 0, 1), 0);
    due("phase(0, 1, 0)", x.phase(0, 1, 0), 297);
    due("of(0, 5)", x.of(0, 5), 297);
    PhaseLights y = Shows.lit(2000, 100, 100, 100, 100, 100, 100, 100, 100, 100, 100, 100, 100);
    for (int i = 0; i < 12; i++) y.patch(0, i, 11);
    due("dimmer(0, 11, 1), twelve of 2000", y.dimmer(0, 11, 1), 24000);
  }

  private static void sumOfDimmers() {
    Check.sentence("Loads", "the load of a phase that of all of its dimmers");
    PhaseLights x = Shows.lit(1000, 10, 20, 30, 40, 50, 60, 70, 80, 90, 100, 1, 2);
    due("phase(0, 0, 0)", x.phase(0, 0, 0), 100 + 400 + 700 + 1000);
    due("phase(0, 1, 0)", x.phase(0, 1, 0), 200 + 500 + 800 + 10);
    due("phase(0, 2, 0)", x.phase(0, 2, 0), 300 + 600 + 900 + 20);
    for (int d = 0; d < 12; d++) x.feed(0, d, 2);
    due("phase(0, 0, 0), no dimmer", x.phase(0, 0, 0), 0);
    due("phase(0, 2, 0), all dimmers", x.phase(0, 2, 0), 5530);
  }

  // ---- dimmers

  private static void levelsThenDimmers() {
    Check.sentence("Trips", "if there is a fade, its levels change by a tick. Then for each dimmer: "
        + "if its load is above CAP, its count becomes 1 more");
    PhaseLights x = Shows.rig(1, 1000);
    x.set(CAP, 500);
    x.set(HOLD, 1);
    Shows.cue(x, 0, 2, 100);
    x.go(0, 0);
    due("tick(1), 500", x.tick(1), 0);
    due("tick(1), 1000", x.tick(1), 1);
    PhaseLights y = under(500, 20000, 1, 1000, 51);
    Shows.cue(y, 0, 1, 50);
    y.go(0, 0);
    due("tick(1), from 510 to 500", y.tick(1), 0);
    due("dimmer(0, 0, 3)", y.dimmer(0, 0, 3), 0);
  }

  private static void aboveCap() {
    Check.sentence("Trips", "if its load is above CAP, its count becomes 1 more, otherwise 0");
    PhaseLights x = under(2000, 20000, 20, 2000, 100, 100);
    x.hang(0, 0, 1);
    due("tick(5), 2000 of 2000", x.tick(5), 0);
    due("dimmer(0, 0, 3)", x.dimmer(0, 0, 3), 0);
    x.set(CAP, 1999);
    x.tick(1);
    due("dimmer(0, 0, 3), 2000 of 1999", x.dimmer(0, 0, 3), 1);
    due("dimmer(0, 1, 3)", x.dimmer(0, 1, 3), 1);
    due("dimmer(0, 2, 3)", x.dimmer(0, 2, 3), 0);
    x.tick(4);
    due("dimmer(0, 0, 3)", x.dimmer(0, 0, 3), 5);
    due("dimmer(1, 0, 3), another premiere", x.dimmer(1, 0, 3), 0);
    PhaseLights y = under(6000, 20000, 20, 1999, 100, 100, 100, 1);
    for (int i = 0; i < 4; i++) y.patch(0, i, 0);
    y.tick(1);
    due("dimmer(0, 0, 3), 6016 of 6000", y.dimmer(0, 0, 3), 1);
    y.patch(0, 3, 1);
    y.tick(1);
    due("dimmer(0, 0, 3), 5997 of 6000", y.dimmer(0, 0, 3), 0);
    PhaseLights z = under(500, 20000, 20, 501, 100);
    z.tick(1);
    due("dimmer(0, 0, 3), 501 of 500", z.dimmer(0, 0, 3), 1);
  }

  private static void otherwiseZero() {
    Check.sentence("Trips", "its count becomes 1 more, otherwise 0");
    PhaseLights x = under(999, 20000, 4, 1000, 100);
    x.tick(3);
    due("dimmer(0, 0, 3)", x.dimmer(0, 0, 3), 3);
    x.patch(0, 0, NONE);
    due("dimmer(0, 0, 3) ahead of the tick", x.dimmer(0, 0, 3), 3);
    x.tick(1);
    due("dimmer(0, 0, 3) behind a tick without the lamp", x.dimmer(0, 0, 3), 0);
    x.patch(0, 0, 0);
    due("tick(3)", x.tick(3), 0);
    due("dimmer(0, 0, 3)", x.dimmer(0, 0, 3), 3);
    due("tick(1), the fourth together", x.tick(1), 1);
  }

  private static void capIsRead() {
    Check.sentence("Trips", "if its load is above CAP (as it is then)");
    PhaseLights x = under(999, 20000, 3, 1000, 100);
    x.tick(2);
    x.set(CAP, 1000);
    due("tick(1)", x.tick(1), 0);
    due("dimmer(0, 0, 3)", x.dimmer(0, 0, 3), 0);
    x.set(CAP, 999);
    due("tick(2)", x.tick(2), 0);
    due("tick(1)", x.tick(1), 1);
  }

  private static void countsStayBetweenTicks() {
    Check.sentence("Trips", "A tick goes like this: .. its count becomes 1 more, otherwise 0 (by ticks alone)");
    PhaseLights x = under(999, 1000, 4, 1100, 100, 100);
    x.tick(2);
    x.feed(0, 0, 1);
    x.patch(0, 1, 5);
    x.at(0, 0, 0);
    x.record(0, 7, 1);
    x.go(0, 7);
    x.hang(0, 0, 0);
    x.takeDown(0, 2);
    x.set(CAP, 5000);
    x.set(LIMIT, 5000);
    x.spread(0);
    for (int i = 0; i < 2; i++) {
      due("dimmer(0, " + i + ", 3)", x.dimmer(0, i, 3), 2);
      due("phase(0, " + i + ", 2)", x.phase(0, i, 2), 2);
    }
    x.tick(1);
    for (int i = 0; i < 2; i++) {
      due("dimmer(0, " + i + ", 3) behind a tick", x.dimmer(0, i, 3), 0);
      due("phase(0, " + i + ", 2) behind a tick", x.phase(0, i, 2), 0);
    }
  }

  private static void holdOfOne() {
    Check.sentence("Trips", "if it is HOLD or more then, the dimmer trips (HOLD 1)");
    PhaseLights x = under(999, 20000, 1, 1000, 100);
    due("dimmer(0, 0, 2)", x.dimmer(0, 0, 2), 0);
    due("tick(1)", x.tick(1), 1);
    due("dimmer(0, 0, 2)", x.dimmer(0, 0, 2), 1);
    due("dimmer(0, 0, 3)", x.dimmer(0, 0, 3), 0);
  }

  private static void holdOfThree() {
    Check.sentence("Trips", "if it is HOLD or more then, the dimmer trips (HOLD 3, as at first)");
    PhaseLights x = Shows.lit(1000, 100);
    x.set(CAP, 999);
    due("tick(2)", x.tick(2), 0);
    due("dimmer(0, 0, 3)", x.dimmer(0, 0, 3), 2);
    due("dimmer(0, 0, 2)", x.dimmer(0, 0, 2), 0);
    due("dimmer(0, 0, 1)", x.dimmer(0, 0, 1), 1000);
    due("tick(1)", x.tick(1), 1);
    due("dimmer(0, 0, 2)", x.dimmer(0, 0, 2), 1);
    due("dimmer(0, 0, 1)", x.dimmer(0, 0, 1), 0);
  }

  private static void holdOfTwenty() {
    Check.sentence("Trips", "if it is HOLD or more then, the dimmer trips (HOLD 20)");
    PhaseLights x = under(999, 20000, 20, 1000, 100);
    due("tick(19)", x.tick(19), 0);
    due("dimmer(0, 0, 3)", x.dimmer(0, 0, 3), 19);
    due("tick(1)", x.tick(1), 1);
    due("of(0, 6)", x.of(0, 6), 1);
  }

  private static void holdOrMore() {
    Check.sentence("Trips", "if it is HOLD or more then, the dimmer trips");
    PhaseLights x = under(999, 20000, 20, 1000, 100, 100);
    x.tick(9);
    x.set(HOLD, 2);
    due("dimmer(0, 0, 2), no tick went by", x.dimmer(0, 0, 2), 0);
    due("dimmer(0, 0, 3)", x.dimmer(0, 0, 3), 9);
    x.patch(0, 1, NONE);
    due("tick(1), the count becomes 10 there, 0 here", x.tick(1), 1);
    due("of(0, 6)", x.of(0, 6), 1);
    due("dimmer(0, 1, 3)", x.dimmer(0, 1, 3), 0);
  }

  private static void holdOrMoreOfPhases() {
    Check.sentence("Trips", "Then likewise for each phase");
    PhaseLights x = under(6000, 1999, 20, 2000, 100, 100);
    x.tick(9);
    due("phase(0, 0, 2)", x.phase(0, 0, 2), 9);
    due("phase(0, 2, 2)", x.phase(0, 2, 2), 0);
    x.set(HOLD, 2);
    x.set(LIMIT, 2000);
    due("tick(1), 2000 of 2000", x.tick(1), 0);
    due("phase(0, 0, 2)", x.phase(0, 0, 2), 0);
    x.undo();
    x.set(LIMIT, 1999);
    x.feed(0, 1, 2);
    due("tick(1), the count becomes 10 there, 0 and 1 here", x.tick(1), 1);
    due("of(0, 7)", x.of(0, 7), 1);
    due("phase(0, 1, 2)", x.phase(0, 1, 2), 0);
    due("phase(0, 2, 2)", x.phase(0, 2, 2), 1);
  }

  private static void countsAheadOfTrips() {
    Check.sentence("Trips", "All counts are made by the loads as they are behind the change of levels; "
        + "then those trip that do.");
    PhaseLights x = under(999, 20000, 2, 1000, 100, 100, 100, 100, 100, 100, 100, 100, 100, 100, 100, 100);
    due("tick(1)", x.tick(1), 0);
    for (int d = 0; d < 12; d++) due("dimmer(0, " + d + ", 3)", x.dimmer(0, d, 3), 1);
    x.patch(0, 5, NONE);
    due("tick(1)", x.tick(1), 11);
    due("of(0, 6)", x.of(0, 6), 4095 - 32);
    for (int d = 0; d < 12; d++) due("dimmer(0, " + d + ", 3)", x.dimmer(0, d, 3), 0);
  }

  // ---- phases

  private static void aboveLimit() {
    Check.sentence("Trips", "Then likewise for each phase .. with LIMIT.");
    PhaseLights x = under(6000, 1000, 3, 1000, 100, 100, 0, 0, 1);
    due("tick(2)", x.tick(2), 0);
    due("phase(0, 0, 2), 1000 of 1000", x.phase(0, 0, 2), 0);
    due("phase(0, 1, 2), 1010 of 1000", x.phase(0, 1, 2), 2);
    due("phase(0, 2, 2), 0 of 1000", x.phase(0, 2, 2), 0);
    due("dimmer(0, 1, 3)", x.dimmer(0, 1, 3), 0);
    due("tick(1)", x.tick(1), 1);
    due("phase(0, 1, 1)", x.phase(0, 1, 1), 1);
    due("phase(0, 1, 2)", x.phase(0, 1, 2), 0);
    due("phase(0, 0, 1)", x.phase(0, 0, 1), 0);
    due("of(0, 6)", x.of(0, 6), 0);
    PhaseLights y = under(6000, 20000, 1, 2000, 100, 100, 100, 100, 100, 100, 100, 100, 100, 100, 100, 100);
    for (int d = 0; d < 10; d++) y.feed(0, d, 0);
    due("tick(1), 20000 of 20000", y.tick(1), 0);
    y.feed(0, 11, 0);
    due("tick(1), 22000 of 20000", y.tick(1), 1);
  }

  private static void phasesBehindDimmers() {
    Check.sentence("Trips", "Then likewise for each phase, by the loads behind the trips of dimmers");
    PhaseLights x = under(999, 1500, 2, 1000, 100, 0, 0, 90);
    due("tick(1)", x.tick(1), 0);
    due("phase(0, 0, 2), 1900 of 1500", x.phase(0, 0, 2), 1);
    due("tick(1), the dimmer 0 alone", x.tick(1), 1);
    due("phase(0, 0, 2), 900 of 1500", x.phase(0, 0, 2), 0);
    due("phase(0, 0, 1)", x.phase(0, 0, 1), 0);
    due("phase(0, 0, 0)", x.phase(0, 0, 0), 900);
  }

  private static void phaseAndOtherDimmer() {
    Check.sentence("Trips", "Then likewise for each phase, by the loads behind the trips of dimmers");
    PhaseLights x = under(999, 1500, 1, 1000, 99, 100, 99, 98);
    due("tick(1), the dimmer 1 and the phase 0", x.tick(1), 2);
    due("of(0, 6)", x.of(0, 6), 2);
    due("of(0, 7)", x.of(0, 7), 1);
    PhaseLights y = under(999, 1500, 1, 1000, 100, 0, 0, 99, 0, 0, 99);
    due("tick(1), the dimmer 0, and the phase 0 by the others", y.tick(1), 2);
    due("of(0, 6)", y.of(0, 6), 1);
    due("of(0, 7)", y.of(0, 7), 1);
    due("of(0, 5)", y.of(0, 5), 0);
  }

  private static void dimmersOfATrippedPhase() {
    Check.sentence("Trips", "Then for each dimmer: if its load is above CAP, its count becomes 1 more, otherwise 0");
    PhaseLights x = under(999, 1500, 20, 1000, 100, 0, 0, 100);
    x.tick(1);
    x.set(HOLD, 3);
    x.tick(1);
    due("dimmer(0, 0, 3)", x.dimmer(0, 0, 3), 2);
    due("phase(0, 0, 2)", x.phase(0, 0, 2), 2);
    x.patch(0, 0, 6);
    x.patch(0, 3, 9);
    due("tick(1), the phase alone", x.tick(1), 1);
    due("of(0, 7)", x.of(0, 7), 1);
    due("dimmer(0, 6, 3), counted ahead of the phase's trip", x.dimmer(0, 6, 3), 1);
    due("tick(1)", x.tick(1), 0);
    due("dimmer(0, 6, 3), without a load", x.dimmer(0, 6, 3), 0);
    due("tick(100)", x.tick(100), 0);
    due("of(0, 6)", x.of(0, 6), 0);
  }

  private static void phaseCountsOtherwiseZero() {
    Check.sentence("Trips", "Then likewise for each phase (its count becomes 1 more, otherwise 0)");
    PhaseLights x = under(6000, 1999, 3, 2000, 100);
    x.tick(2);
    x.feed(0, 0, 1);
    due("phase(0, 0, 2) ahead of the tick", x.phase(0, 0, 2), 2);
    due("tick(1)", x.tick(1), 0);
    due("phase(0, 0, 2)", x.phase(0, 0, 2), 0);
    due("phase(0, 1, 2)", x.phase(0, 1, 2), 1);
    x.feed(0, 0, 0);
    due("tick(2)", x.tick(2), 0);
    due("tick(1)", x.tick(1), 1);
    due("of(0, 7)", x.of(0, 7), 1);
  }

  // ---- what has tripped

  private static void staysTripped() {
    Check.sentence("Trips", "What has tripped stays so, with the count 0, until the premiere is reset");
    PhaseLights x = under(999, 1500, 1, 1000, 99, 100, 0, 98);
    due("tick(1)", x.tick(1), 2);
    due("tick(100)", x.tick(100), 0);
    x.set(CAP, 6000);
    x.set(LIMIT, 20000);
    x.go(0, 7);
    Check.text(x, "0>3@1;r0/1;g0");
    x.carryOut(0);
    due("tick(100)", x.tick(100), 0);
    x.takeDown(0, 1);
    x.spread(0);
    due("of(0, 6)", x.of(0, 6), 2);
    due("of(0, 7)", x.of(0, 7), 1);
    due("dimmer(0, 1, 2)", x.dimmer(0, 1, 2), 1);
    due("dimmer(0, 1, 3)", x.dimmer(0, 1, 3), 0);
    due("phase(0, 0, 1)", x.phase(0, 0, 1), 1);
    due("phase(0, 0, 2)", x.phase(0, 0, 2), 0);
    due("reset(0)", x.reset(0), 2);
    due("of(0, 6)", x.of(0, 6), 0);
    due("of(0, 7)", x.of(0, 7), 0);
  }

  private static void staysTrippedOnOtherWires() {
    Check.sentence("Trips", "What has tripped stays so, with the count 0");
    PhaseLights x = under(999, 20000, 1, 1000, 100, 99);
    x.tick(1);
    x.feed(0, 0, 1);
    due("dimmer(0, 0, 2) on another phase", x.dimmer(0, 0, 2), 1);
    due("dimmer(0, 0, 1)", x.dimmer(0, 0, 1), 0);
    x.patch(0, 1, 0);
    due("tick(5)", x.tick(5), 0);
    due("dimmer(0, 0, 3) with more lamps", x.dimmer(0, 0, 3), 0);
    due("dimmer(0, 0, 4)", x.dimmer(0, 0, 4), 2);
  }

  private static void levelsOfTheTripped() {
    Check.sentence("Trips", "if there is a fade, its levels change by a tick (also of lamps without a load)");
    PhaseLights x = Shows.rig(1, 1000);
    x.set(CAP, 500);
    x.set(HOLD, 1);
    Shows.cue(x, 0, 10, 100);
    x.go(0, 0);
    due("tick(6)", x.tick(6), 1);
    due("tick(2)", x.tick(2), 0);
    due("lamp(0, 0, 3)", x.lamp(0, 0, 3), 80);
    due("of(0, 4)", x.of(0, 4), 2);
    due("lamp(0, 0, 4)", x.lamp(0, 0, 4), 0);
    x.reset(0);
    due("lamp(0, 0, 4) behind reset", x.lamp(0, 0, 4), 800);
  }

  private static void untilReset() {
    Check.sentence("Trips", "until the premiere is reset; then nothing has tripped");
    PhaseLights x = under(999, 1500, 1, 1000, 99, 100, 0, 98);
    x.tick(1);
    due("of(0, 5)", x.of(0, 5), 0);
    due("reset(0)", x.reset(0), 2);
    due("of(0, 5)", x.of(0, 5), 2970);
    for (int d = 0; d < 12; d++) due("dimmer(0, " + d + ", 2)", x.dimmer(0, d, 2), 0);
    for (int f = 0; f < 3; f++) due("phase(0, " + f + ", 1)", x.phase(0, f, 1), 0);
    due("reset(0) again", x.reset(0), 0);
  }

  private static void resetMakesCountsZero() {
    Check.sentence("Trips", "then nothing has tripped, and all counts are 0");
    PhaseLights x = under(999, 1500, 3, 1000, 99, 100, 0, 98);
    x.tick(2);
    due("dimmer(0, 1, 3)", x.dimmer(0, 1, 3), 2);
    due("phase(0, 0, 2)", x.phase(0, 0, 2), 2);
    due("reset(0)", x.reset(0), 0);
    due("dimmer(0, 1, 3)", x.dimmer(0, 1, 3), 0);
    due("phase(0, 0, 2)", x.phase(0, 0, 2), 0);
    due("tick(2)", x.tick(2), 0);
    due("dimmer(0, 1, 3)", x.dimmer(0, 1, 3), 2);
    due("phase(0, 0, 2)", x.phase(0, 0, 2), 2);
    due("tick(1)", x.tick(1), 2);
  }

  /** The same in all three premieres: dimmer 0 trips, dimmer 1 has counted one tick. */
  private static PhaseLights threeTripped() {
    PhaseLights x = new PhaseLights();
    x.type(1000, 20, 1);
    x.set(CAP, 999);
    x.set(HOLD, 2);
    for (int p = 0; p < 3; p++) {
      x.hang(p, 0, 0);
      x.hang(p, 0, NONE);
      x.at(p, 0, 100);
      x.at(p, 1, 100);
      x.record(p, 0, 1);
      x.go(p, 0);
    }
    x.tick(1);
    for (int p = 0; p < 3; p++) x.patch(p, 1, 1);
    return x;
  }

  private static void resetOfOnePremiere() {
    Check.sentence("Promise 13", "Resets a premiere. (Not the others.)");
    PhaseLights x = threeTripped();
    due("tick(1)", x.tick(1), 3);
    due("reset(1)", x.reset(1), 1);
    for (int p = 0; p < 3; p++) {
      due("of(" + p + ", 6)", x.of(p, 6), p == 1 ? 0 : 1);
      due("dimmer(" + p + ", 1, 3)", x.dimmer(p, 1, 3), p == 1 ? 0 : 1);
    }
    due("tick(1), two dimmers 1", x.tick(1), 2);
    due("reset(2)", x.reset(2), 2);
    due("reset(0)", x.reset(0), 2);
  }

  private static void tripsAgain() {
    Check.sentence("Trips", "then nothing has tripped, and all counts are 0");
    PhaseLights x = under(999, 20000, 2, 1000, 100);
    due("tick(2)", x.tick(2), 1);
    x.reset(0);
    due("tick(1)", x.tick(1), 0);
    due("tick(1), it trips again", x.tick(1), 1);
    x.reset(0);
    x.set(CAP, 1000);
    due("tick(100)", x.tick(100), 0);
  }

  private static void resetReturns() {
    Check.sentence("Promise 13", "Returns how many dimmers and phases had tripped");
    PhaseLights x = new PhaseLights();
    due("reset(0) without lamps", x.reset(0), 0);
    due("count(8), it was a change", x.count(8), 1);
    PhaseLights y = under(999, 20000, 1, 1000, 100, 100, 100, 100, 100, 100, 100, 100, 100, 100, 100, 100);
    due("tick(1)", y.tick(1), 12);
    due("of(0, 6)", y.of(0, 6), 4095);
    due("reset(0), all dimmers", y.reset(0), 12);
    PhaseLights z = under(6000, 1000, 1, 1001, 100, 100, 100);
    due("tick(1)", z.tick(1), 3);
    due("of(0, 7)", z.of(0, 7), 7);
    due("reset(0), all phases", z.reset(0), 3);
    due("reset(0) again", z.reset(0), 0);
  }

  /** Eleven dimmers trip, and the twelfth alone lets each phase trip. */
  private static void resetOfFourteen() {
    Check.sentence("Promise 13", "Returns how many dimmers and phases had tripped");
    PhaseLights x = under(1200, 20000, 1, 2000, 60, 61, 61, 61, 61, 61, 61, 61, 61, 61, 61, 61);
    due("tick(1)", x.tick(1), 11);
    x.set(LIMIT, 1199);
    for (int f = 0; f < 3; f++) {
      x.feed(0, 0, f);
      due("tick(1) on phase " + f, x.tick(1), 1);
    }
    due("of(0, 6)", x.of(0, 6), 4094);
    due("of(0, 7)", x.of(0, 7), 7);
    due("reset(0)", x.reset(0), 14);
  }

  private static void resetErrors() {
    Check.sentence("Promise 13", "NO_SUCH if there is no such premiere.");
    PhaseLights x = new PhaseLights();
    due("reset(-1)", x.reset(-1), NO_SUCH);
    due("reset(3)", x.reset(3), NO_SUCH);
    due("count(8)", x.count(8), 0);
    due("reset(2)", x.reset(2), 0);
  }

  private static void resetLeavesTheFade() {
    Check.sentence("Trips", "until the premiere is reset; then nothing has tripped, and all counts are 0 "
        + "(of fades, levels and cues it says nothing)");
    PhaseLights x = Shows.lit(100, 40);
    Shows.cue(x, 0, 4, 80);
    x.go(0, 0);
    x.tick(1);
    x.reset(0);
    due("of(0, 4)", x.of(0, 4), 3);
    due("lamp(0, 0, 3)", x.lamp(0, 0, 3), 50);
    due("lamp(0, 0, 2)", x.lamp(0, 0, 2), 80);
    due("of(0, 3)", x.of(0, 3), 129);
    x.tick(1);
    due("lamp(0, 0, 3)", x.lamp(0, 0, 3), 60);
  }

  // ---- tick

  private static void tickRange() {
    Check.sentence("Promise 14", "`ticks`: 1 to 100 / BAD_VALUE if ticks is out of range.");
    PhaseLights x = Shows.rig(1, 1000);
    Shows.cue(x, 0, 50, 50);
    x.go(0, 0);
    due("tick(0)", x.tick(0), BAD_VALUE);
    due("tick(-1)", x.tick(-1), BAD_VALUE);
    due("tick(101)", x.tick(101), BAD_VALUE);
    due("of(0, 4)", x.of(0, 4), 50);
    due("tick(1)", x.tick(1), 0);
    due("of(0, 4)", x.of(0, 4), 49);
    x.set(CAP, 500);
    x.set(HOLD, 20);
    Shows.cue(x, 0, 50, 100);
    x.go(0, 0);
    x.tick(1);
    due("tick(100), the fade and more", x.tick(100), 1);
    due("of(0, 4)", x.of(0, 4), 0);
    PhaseLights y = under(999, 20000, 20, 1000, 100);
    y.set(CAP, 1000);
    due("tick(100)", y.tick(100), 0);
    y.set(CAP, 999);
    due("tick(19)", y.tick(19), 0);
    due("dimmer(0, 0, 3)", y.dimmer(0, 0, 3), 19);
  }

  private static void tickReturns() {
    Check.sentence("Promise 14", "Returns how many dimmers and phases trip");
    PhaseLights x = under(999, 1500, 2, 1000, 99, 100, 0, 98);
    due("tick(1)", x.tick(1), 0);
    due("tick(1)", x.tick(1), 2);
    due("tick(1)", x.tick(1), 0);
    x.reset(0);
    due("tick(100), in one of its ticks", x.tick(100), 2);
    PhaseLights y = Shows.rig(3, 1000);
    y.set(CAP, 500);
    y.set(HOLD, 1);
    Shows.cue(y, 0, 10, 100, 60, 50);
    y.go(0, 0);
    due("tick(5)", y.tick(5), 0);
    due("tick(5), one in the first of them, one in the fourth", y.tick(5), 2);
  }

  private static void tickOfAllPremieres() {
    Check.sentence("Promise 14", "Returns how many dimmers and phases trip (of all premieres)");
    PhaseLights x = threeTripped();
    due("tick(1), the dimmers 0", x.tick(1), 3);
    due("tick(1), the dimmers 1", x.tick(1), 3);
    for (int p = 0; p < 3; p++) due("of(" + p + ", 6)", x.of(p, 6), 3);
    PhaseLights y = threeTripped();
    due("tick(2)", y.tick(2), 6);
  }
}
