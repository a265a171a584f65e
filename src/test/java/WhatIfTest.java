/** The document's sentences on edges: the promises 24 to 27, what if. */
public final class WhatIfTest {
  private static final int NO_SUCH = -1, BAD_VALUE = -2, NOT_POSSIBLE = -5, NONE = -6;
  private static final int CAP = 0, LIMIT = 1, HOLD = 2;

  private WhatIfTest() {
  }

  public static void main(String[] args) {
    asManyTicksAndHold();
    asManyTicksAndLongHold();
    howManyWouldTrip();
    phasesWouldTrip();
    wouldNotTripAgain();
    firstTick();
    firstTickOfMany();
    firstTickNone();
    greatestOfDimmers();
    greatestBehindTrips();
    greatestOfPhases();
    greatestIsBehindATick();
    fromNow();
    fadesOfNow();
    countsOfNow();
    ofThePremiere();
    ifGoErrors();
    ifGoTellsWhatTickDoes();
    leastTicks();
    leastTicksNone();
    leastTicksAndHold();
    leastTicksWithCounts();
    leastTicksOfPhases();
    safeTicksOfThePremiere();
    safeTicksErrors();
    bestFeedLeast();
    bestFeedLowest();
    bestFeedByOneCue();
    bestFeedIfNothingHadTripped();
    bestFeedErrors();
    ifDaysShort();
    ifDaysOfEachPremiere();
    ifDaysRange();
    ifDaysErrors();
    Check.end();
  }

  private static void due(String call, long got, long want) {
    Check.due(call, got, want);
  }

  private static void ifGo(String when, PhaseLights x, int cue, int... want) {
    for (int what = 0; what < want.length; what++) {
      due("ifGo(0, " + cue + ", " + what + ") " + when, x.ifGo(0, cue, what), want[what]);
    }
  }

  // ---- ifGo

  private static void asManyTicksAndHold() {
    Check.sentence("Promise 24", "Tells what starting a cue would bring, in as many ticks as it has, and HOLD more.");
    for (int hold : new int[] {1, 2, 3, 20}) {
      for (int ticks : new int[] {1, 2, 50}) {
        PhaseLights x = Shows.rig(1, 1000);
        x.set(CAP, 990);
        x.set(HOLD, hold);
        Shows.cue(x, 0, ticks, 100);
        int first = ticks + hold - 1;
        ifGo("with " + ticks + " ticks and HOLD " + hold, x, 0, 1, first);
        x.go(0, 0);
        due("tick(" + (first - 1) + ")", first == 1 ? 0 : x.tick(first - 1), 0);
        due("tick(1)", x.tick(1), 1);
      }
    }
  }

  private static void asManyTicksAndLongHold() {
    Check.sentence("Promise 24", "in as many ticks as it has, and HOLD more (also with the greatest numbers)");
    PhaseLights x = Shows.rig(2, 2000);
    x.set(HOLD, 20);
    x.set(CAP, 1999);
    x.set(LIMIT, 1999);
    x.feed(0, 1, 2);
    Shows.cue(x, 7, 50, 99, 100);
    ifGo("with 50 ticks and HOLD 20", x, 7, 1, 69, 2000, 2000);
    x.set(CAP, 2000);
    ifGo("and the phase alone", x, 7, 1, 69, 2000, 2000);
    x.set(LIMIT, 2000);
    ifGo("and nothing above", x, 7, 0, NONE, 2000, 2000);
  }

  private static void howManyWouldTrip() {
    Check.sentence("Promise 24", "0 how many dimmers and phases of the premiere would trip");
    PhaseLights x = new PhaseLights();
    x.record(0, 0, 1);
    ifGo("without lamps", x, 0, 0, NONE, 0, 0);
    PhaseLights y = Shows.rig(12, 1000);
    y.set(CAP, 500);
    y.set(HOLD, 1);
    Shows.cue(y, 0, 1, 51, 51, 51, 51, 51, 51, 51, 51, 51, 51, 51, 51);
    ifGo("of all dimmers", y, 0, 12, 1, 0, 0);
    Shows.cue(y, 1, 2, 50, 51, 50, 50, 50, 50, 50, 50, 50, 50, 50, 100);
    ifGo("of two of them, in two ticks", y, 1, 2, 2, 500, 2000);
    due("of(0, 6), nothing changes", y.of(0, 6), 0);
  }

  private static void phasesWouldTrip() {
    Check.sentence("Promise 24", "0 how many dimmers and phases of the premiere would trip");
    PhaseLights x = Shows.rig(6, 1000);
    x.set(LIMIT, 1000);
    x.set(HOLD, 1);
    Shows.cue(x, 0, 1, 51, 51, 51, 50, 50, 50);
    ifGo("of all phases", x, 0, 3, 1, 0, 0);
    Shows.cue(x, 0, 1, 51, 50, 51, 50, 50, 50);
    ifGo("of two of them", x, 0, 2, 1, 500, 1000);
    x.set(CAP, 504);
    ifGo("of the dimmers 0 and 2 instead", x, 0, 2, 1, 500, 1000);
    x.set(CAP, 500);
    Shows.cue(x, 0, 1, 51, 100, 0, 50, 50, 50);
    x.hang(0, 0, 9);
    x.at(0, 6, 50);
    x.set(LIMIT, 1000);
    Shows.cue(x, 0, 1, 51, 50, 51, 50, 50, 50, 50);
    ifGo("of two dimmers, and of no phase behind them", x, 0, 2, 1, 500, 1000);
    x.hang(0, 0, 6);
    Shows.cue(x, 0, 1, 51, 50, 51, 50, 50, 50, 50, 50);
    ifGo("of two dimmers, and of the phase 0 by the others", x, 0, 3, 1, 500, 1000);
  }

  private static void wouldNotTripAgain() {
    Check.sentence("Promise 24", "0 how many .. would trip (what has tripped stays so)");
    PhaseLights x = Shows.lit(1000, 100, 100);
    x.set(CAP, 999);
    x.set(HOLD, 1);
    x.patch(0, 1, NONE);
    x.tick(1);
    x.patch(0, 1, 1);
    due("of(0, 6)", x.of(0, 6), 1);
    ifGo("when dimmer 0 has tripped", x, 7, 1, 1, 0, 0);
    x.tick(1);
    ifGo("when both have tripped", x, 7, 0, NONE, 0, 0);
    x.reset(0);
    ifGo("behind reset", x, 7, 2, 1, 0, 0);
  }

  private static void firstTick() {
    Check.sentence("Promise 24", "1 the tick with which the first one would (1 for the first tick; NONE)");
    PhaseLights x = Shows.rig(2, 1000);
    x.set(CAP, 500);
    x.set(HOLD, 1);
    Shows.cue(x, 0, 1, 100);
    due("ifGo(0, 0, 1)", x.ifGo(0, 0, 1), 1);
    Shows.cue(x, 0, 10, 100);
    due("ifGo(0, 0, 1), 60 of 100", x.ifGo(0, 0, 1), 6);
    x.set(HOLD, 3);
    due("ifGo(0, 0, 1), three times above", x.ifGo(0, 0, 1), 8);
    x.set(HOLD, 20);
    due("ifGo(0, 0, 1), twenty times above", x.ifGo(0, 0, 1), 25);
  }

  private static void firstTickOfMany() {
    Check.sentence("Promise 24", "1 the tick with which the first one would");
    PhaseLights x = Shows.rig(3, 1000);
    x.set(CAP, 500);
    x.set(HOLD, 2);
    Shows.cue(x, 0, 10, 60, 100, 70);
    ifGo("of three, the second is the first", x, 0, 3, 7);
    x.set(CAP, 6000);
    x.set(LIMIT, 1000);
    x.feed(0, 1, 0);
    x.feed(0, 2, 0);
    ifGo("of a phase, 1150 in the fifth tick", x, 0, 1, 6);
  }

  private static void firstTickNone() {
    Check.sentence("Promise 24", "(1 for the first tick; NONE)");
    PhaseLights x = Shows.rig(1, 1000);
    x.set(CAP, 1000);
    Shows.cue(x, 0, 5, 100);
    due("ifGo(0, 0, 1), 1000 of 1000", x.ifGo(0, 0, 1), NONE);
    x.set(CAP, 999);
    due("ifGo(0, 0, 1), 1000 of 999", x.ifGo(0, 0, 1), 7);
    PhaseLights y = Shows.lit(1000, 100);
    y.set(CAP, 500);
    Shows.cue(y, 0, 4, 0);
    due("ifGo(0, 0, 1), above in one tick of three", y.ifGo(0, 0, 1), NONE);
    due("ifGo(0, 0, 0)", y.ifGo(0, 0, 0), 0);
    Shows.cue(y, 0, 8, 0);
    due("ifGo(0, 0, 1), above in three ticks of three", y.ifGo(0, 0, 1), 3);
  }

  private static void greatestOfDimmers() {
    Check.sentence("Promise 24", "2 the greatest load of a dimmer behind a whole tick");
    PhaseLights x = Shows.rig(3, 199);
    x.patch(0, 1, 0);
    Shows.cue(x, 0, 3, 50, 50, 99);
    due("ifGo(0, 0, 2): 99 and 99, or 197", x.ifGo(0, 0, 2), 198);
    x.patch(0, 1, NONE);
    due("ifGo(0, 0, 2): 99 or 197", x.ifGo(0, 0, 2), 197);
    PhaseLights y = Shows.lit(1000, 100, 0);
    Shows.cue(y, 0, 4, 0, 60);
    due("ifGo(0, 0, 2), 750 in the first tick", y.ifGo(0, 0, 2), 750);
  }

  private static void greatestBehindTrips() {
    Check.sentence("Promise 24", "behind a whole tick (also behind its trips)");
    PhaseLights x = Shows.rig(1, 1000);
    x.set(CAP, 500);
    x.set(HOLD, 1);
    Shows.cue(x, 0, 10, 100);
    ifGo("500, and then 600 trips", x, 0, 1, 6, 500, 500);
    x.set(HOLD, 3);
    ifGo("700, and then 800 trips", x, 0, 1, 8, 700, 700);
    Shows.cue(x, 0, 1, 100);
    x.set(HOLD, 1);
    ifGo("1000 trips in the first tick", x, 0, 1, 1, 0, 0);
    PhaseLights y = Shows.rig(6, 2000);
    y.set(LIMIT, 2000);
    y.set(HOLD, 1);
    Shows.cue(y, 0, 5, 60, 0, 0, 60);
    ifGo("the phase trips at 2400, in the fifth tick", y, 0, 1, 5, 960, 1920);
  }

  private static void greatestOfPhases() {
    Check.sentence("Promise 24", "3 the greatest load of a phase likewise");
    PhaseLights x = Shows.rig(6, 1000);
    Shows.cue(x, 0, 2, 50, 60, 10, 45, 20, 10);
    ifGo("950 of the phase 0", x, 0, 0, NONE, 600, 950);
    x.feed(0, 0, 2);
    ifGo("800 of the phase 1", x, 0, 0, NONE, 600, 800);
    x.feed(0, 1, 2);
    ifGo("1300 of the phase 2", x, 0, 0, NONE, 600, 1300);
    x.set(CAP, 500);
    x.set(HOLD, 1);
    ifGo("the dimmer 1 trips", x, 0, 1, 2, 500, 700);
  }

  private static void greatestIsBehindATick() {
    Check.sentence("Promise 24", "the greatest load of a dimmer behind a whole tick (not ahead of the first one)");
    PhaseLights x = Shows.lit(1000, 100);
    Shows.cue(x, 0, 1, 0);
    ifGo("to 0 in one tick", x, 0, 0, NONE, 0, 0);
    Shows.cue(x, 0, 1, 3);
    ifGo("to 3 in one tick", x, 0, 0, NONE, 30, 30);
    Shows.cue(x, 0, 50, 0);
    ifGo("to 0 in 50 ticks", x, 0, 0, NONE, 980, 980);
  }

  private static void fromNow() {
    Check.sentence("Promise 24", "what starting a cue would bring (each lamp goes from its level of now)");
    PhaseLights x = Shows.lit(1000, 80);
    x.set(CAP, 850);
    x.set(HOLD, 1);
    Shows.cue(x, 0, 4, 100);
    ifGo("from 80", x, 0, 1, 2, 850, 850);
    PhaseLights y = Shows.rig(1, 1000);
    y.set(CAP, 850);
    y.set(HOLD, 1);
    Shows.cue(y, 0, 4, 100);
    ifGo("from 0", y, 0, 1, 4, 750, 750);
  }

  private static void fadesOfNow() {
    Check.sentence("Promise 24", "what starting a cue would bring (another start ends the fade that there is)");
    PhaseLights x = Shows.lit(1000, 0);
    Shows.cue(x, 0, 10, 100);
    Shows.cue(x, 1, 2, 0);
    x.go(0, 0);
    x.tick(5);
    ifGo("of another cue, half way", x, 1, 0, NONE, 250, 250);
    ifGo("of the same cue, half way", x, 0, 0, NONE, 1000, 1000);
    due("of(0, 4), nothing changes", x.of(0, 4), 5);
    x.tick(5);
    due("lamp(0, 0, 3), nothing changes", x.lamp(0, 0, 3), 100);
  }

  private static void countsOfNow() {
    Check.sentence("Promise 24", "1 the tick with which the first one would (by the counts of now)");
    PhaseLights x = Shows.lit(1000, 100);
    x.set(CAP, 999);
    x.set(HOLD, 5);
    x.tick(3);
    ifGo("with a count of 3 of 5", x, 7, 1, 2, 1000, 1000);
    due("dimmer(0, 0, 3), nothing changes", x.dimmer(0, 0, 3), 3);
    x.tick(1);
    ifGo("with a count of 4 of 5", x, 7, 1, 1, 0, 0);
    due("tick(1)", x.tick(1), 1);
    PhaseLights y = Shows.lit(1000, 100, 0, 0, 1);
    y.set(LIMIT, 1000);
    y.set(HOLD, 5);
    y.tick(4);
    ifGo("with a phase's count of 4 of 5", y, 7, 1, 1, 0, 0);
    due("phase(0, 0, 2), nothing changes", y.phase(0, 0, 2), 4);
  }

  private static void ofThePremiere() {
    Check.sentence("Promise 24", "0 how many dimmers and phases of the premiere would trip");
    PhaseLights x = new PhaseLights();
    x.type(1000, 1, 1);
    x.set(CAP, 500);
    x.set(HOLD, 2);
    for (int p = 0; p < 3; p++) {
      x.hang(p, 0, 0);
      x.at(p, 0, p == 1 ? 50 : 100);
      x.record(p, 0, 1);
    }
    x.go(0, 0);
    x.go(2, 0);
    x.tick(1);
    due("ifGo(1, 0, 0), the others would trip", x.ifGo(1, 0, 0), 0);
    due("ifGo(1, 0, 2)", x.ifGo(1, 0, 2), 500);
    due("ifGo(0, 0, 0)", x.ifGo(0, 0, 0), 1);
    due("ifGo(2, 0, 1)", x.ifGo(2, 0, 1), 1);
    due("safeTicks(1, 0)", x.safeTicks(1, 0), 1);
    due("dimmer(0, 0, 3), nothing changes", x.dimmer(0, 0, 3), 1);
    due("dimmer(2, 0, 3), nothing changes", x.dimmer(2, 0, 3), 1);
  }

  private static void ifGoErrors() {
    Check.sentence("Promise 24", "NO_SUCH if there is no such premiere or cue; BAD_VALUE if what is out of range; "
        + "NOT_POSSIBLE if the cue is not recorded.");
    PhaseLights x = Shows.rig(1, 1000);
    x.record(0, 0, 1);
    due("ifGo(-1, 0, 0)", x.ifGo(-1, 0, 0), NO_SUCH);
    due("ifGo(3, 0, 0)", x.ifGo(3, 0, 0), NO_SUCH);
    due("ifGo(0, -1, 0)", x.ifGo(0, -1, 0), NO_SUCH);
    due("ifGo(0, 8, 0)", x.ifGo(0, 8, 0), NO_SUCH);
    due("ifGo(0, 8, 4)", x.ifGo(0, 8, 4), NO_SUCH);
    due("ifGo(0, 0, -1)", x.ifGo(0, 0, -1), BAD_VALUE);
    due("ifGo(0, 0, 4)", x.ifGo(0, 0, 4), BAD_VALUE);
    due("ifGo(0, 1, 4), not recorded", x.ifGo(0, 1, 4), BAD_VALUE);
    for (int what = 0; what <= 3; what++) due("ifGo(0, 7, " + what + ")", x.ifGo(0, 7, what), NOT_POSSIBLE);
    due("ifGo(1, 0, 0), another premiere", x.ifGo(1, 0, 0), NOT_POSSIBLE);
    due("ifGo(0, 0, 3)", x.ifGo(0, 0, 3), 0);
  }

  /** Some shows: what ifGo() told is what tick() brings then, one tick after the other. */
  private static void ifGoTellsWhatTickDoes() {
    Check.sentence("Promise 24", "Tells what starting a cue would bring");
    for (int show = 0; show < 40; show++) {
      PhaseLights x = Shows.lit(1000, show % 7 * 16, show % 11 * 10, show % 3 * 50, show % 5 * 25, show % 13 * 8);
      x.set(CAP, 500 + show * 37 % 500);
      x.set(LIMIT, 1000 + show * 53 % 700);
      x.set(HOLD, 1 + show % 4);
      x.tick(1 + show % 2);
      Shows.cue(x, 0, 1 + show % 9, show % 8 * 14, show % 4 * 33, show % 6 * 20, show % 10 * 11, show % 9 * 12);
      int[] told = {x.ifGo(0, 0, 0), x.ifGo(0, 0, 1), x.ifGo(0, 0, 2), x.ifGo(0, 0, 3)};
      int[] seen = {0, NONE, 0, 0};
      int end = x.go(0, 0) + x.count(6);
      for (int t = 1; t <= end; t++) {
        int trips = x.tick(1);
        seen[0] += trips;
        if (trips > 0 && seen[1] == NONE) seen[1] = t;
        for (int d = 0; d < 5; d++) seen[2] = Math.max(seen[2], x.dimmer(0, d, 1));
        for (int f = 0; f < 3; f++) seen[3] = Math.max(seen[3], x.phase(0, f, 0));
      }
      for (int what = 0; what <= 3; what++) due("show " + show + ", ifGo(0, 0, " + what + ")", told[what], seen[what]);
    }
  }

  // ---- safeTicks

  private static void leastTicks() {
    Check.sentence("Promise 25", "Finds the least ticks, 1 to 50, with which nothing of the premiere would trip");
    PhaseLights x = new PhaseLights();
    x.record(0, 0, 50);
    due("safeTicks(0, 0) without lamps", x.safeTicks(0, 0), 1);
    PhaseLights y = Shows.rig(1, 1000);
    y.set(CAP, 1000);
    y.set(HOLD, 1);
    Shows.cue(y, 0, 50, 100);
    due("safeTicks(0, 0), 1000 of 1000", y.safeTicks(0, 0), 1);
    PhaseLights z = Shows.lit(1000, 100);
    z.set(CAP, 500);
    z.set(HOLD, 1);
    Shows.cue(z, 0, 50, 50);
    due("ifGo(0, 0, 1), it falls slowly", z.ifGo(0, 0, 1), 1);
    due("safeTicks(0, 0), it can fall at once", z.safeTicks(0, 0), 1);
    due("cue(0, 0, 1), nothing changes", z.cue(0, 0, 1), 50);
  }

  private static void leastTicksNone() {
    Check.sentence("Promise 25", "NONE if there are none");
    PhaseLights x = Shows.rig(1, 1000);
    x.set(CAP, 999);
    Shows.cue(x, 0, 50, 100);
    due("safeTicks(0, 0), 1000 of 999", x.safeTicks(0, 0), NONE);
    x.set(HOLD, 20);
    due("safeTicks(0, 0), HOLD 20", x.safeTicks(0, 0), NONE);
    x.set(HOLD, 1);
    due("safeTicks(0, 0), HOLD 1", x.safeTicks(0, 0), NONE);
    x.patch(0, 0, NONE);
    due("safeTicks(0, 0), on none", x.safeTicks(0, 0), 1);
    due("of(0, 6), nothing changes", x.of(0, 6), 0);
    due("of(0, 4), nothing changes", x.of(0, 4), 0);
  }

  private static void leastTicksAndHold() {
    Check.sentence("Promise 25", "by starting a cue, in so many ticks, and HOLD more");
    for (int hold = 1; hold <= 20; hold++) {
      PhaseLights x = Shows.rig(1, 1000);
      x.set(CAP, 999);
      x.set(HOLD, hold);
      Shows.cue(x, 0, 1, 100);
      due("safeTicks(0, 0) with HOLD " + hold, x.safeTicks(0, 0), NONE);
      Shows.cue(x, 0, 1, 99);
      due("safeTicks(0, 0) with HOLD " + hold, x.safeTicks(0, 0), 1);
    }
  }

  private static void leastTicksWithCounts() {
    Check.sentence("Promise 25", "with which nothing of the premiere would trip (by the counts and trips of now)");
    PhaseLights x = Shows.lit(1000, 100, 100);
    x.set(CAP, 999);
    x.patch(0, 1, NONE);
    x.tick(2);
    Shows.cue(x, 0, 5, 99, 99);
    due("safeTicks(0, 0), its count ends", x.safeTicks(0, 0), 1);
    due("safeTicks(0, 7)", x.safeTicks(0, 7), NONE);
    due("dimmer(0, 0, 3), nothing changes", x.dimmer(0, 0, 3), 2);
    due("tick(1)", x.tick(1), 1);
    due("safeTicks(0, 7), it has tripped", x.safeTicks(0, 7), 1);
    x.patch(0, 1, 1);
    due("safeTicks(0, 7), the other would", x.safeTicks(0, 7), NONE);
    x.reset(0);
    x.patch(0, 1, NONE);
    due("safeTicks(0, 7) behind reset", x.safeTicks(0, 7), NONE);
  }

  private static void leastTicksOfPhases() {
    Check.sentence("Promise 25", "nothing of the premiere would trip (phases neither)");
    PhaseLights x = Shows.rig(4, 1000);
    x.set(LIMIT, 1000);
    Shows.cue(x, 0, 9, 100, 100, 100, 0);
    due("safeTicks(0, 0), 1000 of 1000", x.safeTicks(0, 0), 1);
    Shows.cue(x, 0, 9, 100, 100, 100, 1);
    due("safeTicks(0, 0), 1010 of 1000", x.safeTicks(0, 0), NONE);
    x.feed(0, 3, 1);
    due("safeTicks(0, 0), on another phase", x.safeTicks(0, 0), NONE);
    x.patch(0, 3, NONE);
    due("safeTicks(0, 0), on none", x.safeTicks(0, 0), 1);
  }

  private static void safeTicksOfThePremiere() {
    Check.sentence("Promise 25", "nothing of the premiere would trip");
    PhaseLights x = new PhaseLights();
    x.type(1000, 1, 1);
    x.set(CAP, 500);
    x.hang(0, 0, 0);
    x.at(0, 0, 100);
    x.record(0, 0, 1);
    x.record(2, 0, 1);
    x.go(0, 0);
    x.tick(1);
    due("safeTicks(2, 0), the premiere 0 would", x.safeTicks(2, 0), 1);
    due("safeTicks(0, 0)", x.safeTicks(0, 0), NONE);
  }

  private static void safeTicksErrors() {
    Check.sentence("Promise 25", "NO_SUCH if there is no such premiere or cue; NOT_POSSIBLE if the cue is not recorded");
    PhaseLights x = Shows.rig(1, 1000);
    x.record(0, 0, 1);
    due("safeTicks(-1, 0)", x.safeTicks(-1, 0), NO_SUCH);
    due("safeTicks(3, 0)", x.safeTicks(3, 0), NO_SUCH);
    due("safeTicks(0, -1)", x.safeTicks(0, -1), NO_SUCH);
    due("safeTicks(0, 8)", x.safeTicks(0, 8), NO_SUCH);
    due("safeTicks(3, 1)", x.safeTicks(3, 1), NO_SUCH);
    for (int c = 1; c < 8; c++) due("safeTicks(0, " + c + ")", x.safeTicks(0, c), NOT_POSSIBLE);
    due("safeTicks(1, 0), another premiere", x.safeTicks(1, 0), NOT_POSSIBLE);
    due("safeTicks(0, 0)", x.safeTicks(0, 0), 1);
  }

  // ---- bestFeed

  private static void bestFeedLeast() {
    Check.sentence("Promise 26", "Finds the phase for a dimmer with which the greatest of the numbers phase(.., 4) "
        + "of the premiere would be the least");
    PhaseLights x = Shows.rig(4, 1000);
    Shows.cue(x, 0, 1, 50, 30, 20, 40);
    due("bestFeed(0, 3): 900, 700, 600", x.bestFeed(0, 3), 2);
    due("bestFeed(0, 0): 900, 800, 700", x.bestFeed(0, 0), 2);
    due("dimmer(0, 3, 0), nothing changes", x.dimmer(0, 3, 0), 0);
    due("phase(0, 0, 4), nothing changes", x.phase(0, 0, 4), 900);
    Shows.cue(x, 0, 1, 30, 10, 20, 40);
    due("bestFeed(0, 3): 700, 500, 600", x.bestFeed(0, 3), 1);
    Shows.cue(x, 0, 1, 10, 30, 20, 40);
    due("bestFeed(0, 3): 500, 700, 600", x.bestFeed(0, 3), 0);
    x.feed(0, 3, 2);
    due("bestFeed(0, 3), from another phase", x.bestFeed(0, 3), 0);
    due("dimmer(0, 3, 0), nothing changes", x.dimmer(0, 3, 0), 2);
  }

  private static void bestFeedLowest() {
    Check.sentence("Promise 26", "of several the lowest one");
    PhaseLights x = new PhaseLights();
    for (int d = 0; d < 12; d++) due("bestFeed(0, " + d + ") without lamps", x.bestFeed(0, d), 0);
    PhaseLights y = Shows.rig(4, 1000);
    Shows.cue(y, 0, 1, 90, 10, 20, 30);
    due("bestFeed(0, 3): 1200, 900, 900", y.bestFeed(0, 3), 1);
    due("bestFeed(0, 11), without a load", y.bestFeed(0, 11), 0);
    Shows.cue(y, 0, 1, 10, 90, 20, 30);
    due("bestFeed(0, 3): 900, 1200, 900", y.bestFeed(0, 3), 0);
    Shows.cue(y, 0, 1, 40, 20, 20, 30);
    due("bestFeed(0, 3): 700, 500, 500", y.bestFeed(0, 3), 1);
    y.feed(0, 3, 2);
    due("bestFeed(0, 3), from another phase", y.bestFeed(0, 3), 1);
  }

  private static void bestFeedByOneCue() {
    Check.sentence("Promise 26", "the numbers phase(.., 4) of the premiere");
    PhaseLights x = Shows.rig(4, 1000);
    x.at(0, 0, 100);
    x.record(0, 0, 1);
    x.at(0, 0, 0);
    x.at(0, 1, 30);
    x.at(0, 2, 40);
    x.at(0, 3, 50);
    x.record(0, 1, 1);
    x.at(0, 3, 0);
    due("bestFeed(0, 3): 1000, 1000, 1000", x.bestFeed(0, 3), 0);
    due("bestFeed(0, 0): 1000, 1000, 1000", x.bestFeed(0, 0), 0);
    x.at(0, 0, 60);
    x.record(0, 0, 1);
    due("bestFeed(0, 3): 600, 800, 900", x.bestFeed(0, 3), 0);
    x.at(0, 0, 100);
    due("bestFeed(0, 2): 1000, 700, 600", x.bestFeed(0, 2), 2);
  }

  private static void bestFeedIfNothingHadTripped() {
    Check.sentence("Promise 26", "the numbers phase(.., 4) (if nothing had tripped)");
    PhaseLights x = Shows.lit(1000, 100, 20, 30, 60);
    x.set(CAP, 999);
    x.set(HOLD, 1);
    x.tick(1);
    due("of(0, 6)", x.of(0, 6), 1);
    due("bestFeed(0, 3): 1600, 1000, 1000", x.bestFeed(0, 3), 1);
    x.set(LIMIT, 1000);
    x.reset(0);
    x.set(CAP, 6000);
    x.tick(1);
    due("of(0, 7)", x.of(0, 7), 1);
    due("bestFeed(0, 3): 1600, 1000, 1000", x.bestFeed(0, 3), 1);
  }

  private static void bestFeedErrors() {
    Check.sentence("Promise 26", "NO_SUCH if there is no such premiere or dimmer.");
    PhaseLights x = new PhaseLights();
    due("bestFeed(-1, 0)", x.bestFeed(-1, 0), NO_SUCH);
    due("bestFeed(3, 0)", x.bestFeed(3, 0), NO_SUCH);
    due("bestFeed(0, -1)", x.bestFeed(0, -1), NO_SUCH);
    due("bestFeed(0, 12)", x.bestFeed(0, 12), NO_SUCH);
    due("bestFeed(2, 11)", x.bestFeed(2, 11), 0);
  }

  // ---- ifDays

  private static void ifDaysShort() {
    Check.sentence("Promise 27", "Tells how many lamps would be short, all types and days together, "
        + "if a premiere had other days.");
    PhaseLights x = new PhaseLights();
    x.type(100, 1, 1);
    x.type(100, 0, 1);
    x.hang(0, 0, 0);
    x.hang(1, 0, 0);
    x.days(1, 2, 4);
    due("ifDays(0, 0, 0), as it is", x.ifDays(0, 0, 0), 0);
    due("ifDays(0, 0, 1), the days before", x.ifDays(0, 0, 1), 0);
    due("ifDays(0, 0, 2), its first day", x.ifDays(0, 0, 2), 1);
    due("ifDays(0, 4, 6), its last day", x.ifDays(0, 4, 6), 1);
    due("ifDays(0, 5, 6), the days behind", x.ifDays(0, 5, 6), 0);
    due("ifDays(0, 0, 6), all of its days", x.ifDays(0, 0, 6), 3);
    x.hang(0, 1, 0);
    due("ifDays(0, 0, 6), and one on seven days", x.ifDays(0, 0, 6), 10);
    due("ifDays(0, 6, 6)", x.ifDays(0, 6, 6), 1);
    due("count(2), nothing changes", x.count(2), 1);
    due("of(0, 0), nothing changes", x.of(0, 0), 0);
    due("of(0, 1), nothing changes", x.of(0, 1), 0);
  }

  private static void ifDaysOfEachPremiere() {
    Check.sentence("Promise 27", "if a premiere had other days");
    PhaseLights x = new PhaseLights();
    x.type(100, 0, 1);
    for (int p = 0; p < 3; p++) for (int i = 0; i <= p; i++) x.hang(p, 0, 0);
    due("ifDays(0, 0, 6)", x.ifDays(0, 0, 6), 7 + 2 + 3);
    due("ifDays(1, 0, 6)", x.ifDays(1, 0, 6), 1 + 14 + 3);
    due("ifDays(2, 0, 6)", x.ifDays(2, 0, 6), 1 + 2 + 21);
    due("count(2), nothing changes", x.count(2), 6);
    due("count(8), it is no change", x.count(8), 6);
  }

  private static void ifDaysRange() {
    Check.sentence("Promise 27", "`first`: 0 to 6 / `last`: first to 6");
    PhaseLights x = new PhaseLights();
    x.type(100, 0, 1);
    x.hang(0, 0, 0);
    for (int first = -1; first <= 7; first++) {
      for (int last = -1; last <= 7; last++) {
        boolean good = first >= 0 && last >= first && last <= 6;
        due("ifDays(0, " + first + ", " + last + ")", x.ifDays(0, first, last), good ? last - first + 1 : BAD_VALUE);
      }
    }
    due("of(0, 0), nothing changes", x.of(0, 0), 0);
    due("of(0, 1), nothing changes", x.of(0, 1), 0);
  }

  private static void ifDaysErrors() {
    Check.sentence("Promise 27", "NO_SUCH if there is no such premiere; BAD_VALUE if a day is out of range.");
    PhaseLights x = new PhaseLights();
    due("ifDays(-1, 0, 0)", x.ifDays(-1, 0, 0), NO_SUCH);
    due("ifDays(3, 0, 0)", x.ifDays(3, 0, 0), NO_SUCH);
    due("ifDays(3, 0, 7)", x.ifDays(3, 0, 7), NO_SUCH);
    due("ifDays(0, 0, 7)", x.ifDays(0, 0, 7), BAD_VALUE);
    due("ifDays(0, -1, 0)", x.ifDays(0, -1, 0), BAD_VALUE);
    due("ifDays(0, 1, 0)", x.ifDays(0, 1, 0), BAD_VALUE);
    due("ifDays(2, 6, 6)", x.ifDays(2, 6, 6), 0);
  }
}
