import java.util.LinkedHashMap;
import java.util.Map;
import java.util.function.ToIntFunction;

/** The document's sentences on edges: the promises 31 to 33, undo and saving. */
public final class HistoryTest {
  private static final int NO_SUCH = -1, BAD_VALUE = -2, BAD_TEXT = -3, NOT_POSSIBLE = -5, NONE = -6;
  private static final int CAP = 0, LIMIT = 1, HOLD = 2;

  private HistoryTest() {
  }

  public static void main(String[] args) {
    sixStates();
    oldestIsDropped();
    changesBehindUndo();
    undoReturns();
    undoNotPossible();
    eachChangeIsUndone();
    nothingDifferent();
    errorsRecordNothing();
    looksRecordNothing();
    undoLeavesThePad();
    undoLeavesTheSlots();
    undoOfUndo();
    undoOfTrips();
    undoOfFades();
    undoOfTypes();
    ordersRecordNothing();
    saveReturns();
    saveOverwrites();
    saveIsNoChange();
    saveLeavesThePad();
    saveErrors();
    restoreIsWhole();
    restoreOfTypes();
    restoreReturns();
    slotKeeps();
    slotsAreApart();
    restoreIsAChange();
    restoreLeaves();
    restoreErrors();
    savedOnceStaysSaved();
    Check.end();
  }

  private static void due(String call, long got, long want) {
    Check.due(call, got, want);
  }

  /** Each method that is a change, in the show() below, so that it brings something new. */
  private static Map<String, ToIntFunction<PhaseLights>> changes() {
    Map<String, ToIntFunction<PhaseLights>> all = new LinkedHashMap<>();
    all.put("set(LIMIT, 9000)", x -> x.set(LIMIT, 9000));
    all.put("type(500, 3, 9)", x -> x.type(500, 3, 9));
    all.put("days(0, 1, 5)", x -> x.days(0, 1, 5));
    all.put("hang(0, 1, 4)", x -> x.hang(0, 1, 4));
    all.put("takeDown(0, 0)", x -> x.takeDown(0, 0));
    all.put("patch(0, 1, 7)", x -> x.patch(0, 1, 7));
    all.put("feed(0, 3, 1)", x -> x.feed(0, 3, 1));
    all.put("spread(0)", x -> x.spread(0));
    all.put("at(0, 0, 77)", x -> x.at(0, 0, 77));
    all.put("record(0, 2, 7)", x -> x.record(0, 2, 7));
    all.put("go(0, 1)", x -> x.go(0, 1));
    all.put("reset(0)", x -> x.reset(0));
    all.put("tick(1)", x -> x.tick(1));
    all.put("carryOut(0)", x -> x.carryOut(0));
    all.put("restore(1)", x -> x.restore(1));
    return all;
  }

  /** The same, so that nothing is different then. */
  private static Map<String, ToIntFunction<PhaseLights>> changesOfNothing() {
    Map<String, ToIntFunction<PhaseLights>> all = new LinkedHashMap<>();
    all.put("set(CAP, 2400)", x -> x.set(CAP, 2400));
    all.put("days(0, 0, 0)", x -> x.days(0, 0, 0));
    all.put("patch(0, 0, 0)", x -> x.patch(0, 0, 0));
    all.put("patch(0, 1, NONE)", x -> x.patch(0, 1, NONE) == NONE ? 0 : -1);
    all.put("feed(0, 0, 0)", x -> x.feed(0, 0, 0));
    all.put("spread(1)", x -> x.spread(1));
    all.put("at(0, 0, 0)", x -> x.at(0, 0, 0));
    all.put("record(0, 0, 5)", x -> x.record(0, 0, 5));
    all.put("reset(0)", x -> x.reset(0));
    all.put("tick(1)", x -> x.tick(1));
    all.put("tick(100)", x -> x.tick(100));
    all.put("carryOut(1)", x -> x.carryOut(1));
    all.put("restore(1)", x -> x.restore(1));
    return all;
  }

  /** Counts, a trip, a fade, two slots, a text; one change can be undone. */
  private static PhaseLights show() {
    PhaseLights x = new PhaseLights();
    x.save(1);
    x.type(1000, 1, 2);
    x.type(700, 0, 3);
    x.hang(0, 0, 0);
    x.hang(0, 1, 3);
    x.hang(0, 0, NONE);
    x.set(CAP, 690);
    x.set(HOLD, 2);
    Shows.cue(x, 0, 2, 100, 40, 60);
    Shows.cue(x, 1, 9, 10, 100, 20);
    x.go(0, 0);
    x.tick(3);
    x.go(0, 1);
    x.tick(7);
    x.save(0);
    Shows.undoAll(x);
    x.restore(0);
    Check.text(x, "0>2@9;r3/8;g3;x");
    return x;
  }

  // ---- undo

  private static void sixStates() {
    Check.sentence("Promise 31", "A history of at most 6 states is kept");
    PhaseLights x = new PhaseLights();
    for (int i = 1; i <= 6; i++) {
      x.set(CAP, 500 + i);
      due("count(8)", x.count(8), i);
    }
    for (int left = 5; left >= 0; left--) {
      due("undo()", x.undo(), left);
      due("count(4)", x.count(4), left == 0 ? 2400 : 500 + left);
    }
    due("undo(), a seventh time", x.undo(), NOT_POSSIBLE);
    due("count(4)", x.count(4), 2400);
  }

  private static void oldestIsDropped() {
    Check.sentence("Promise 31", "when one more is recorded, the oldest one is dropped");
    for (int changes = 7; changes <= 20; changes += 13) {
      PhaseLights x = new PhaseLights();
      for (int i = 1; i <= changes; i++) x.set(CAP, 500 + i);
      due("count(8)", x.count(8), 6);
      for (int left = 5; left >= 0; left--) {
        due("undo()", x.undo(), left);
        due("count(4)", x.count(4), 500 + changes - 6 + left);
      }
      due("undo(), a seventh time", x.undo(), NOT_POSSIBLE);
      due("count(4)", x.count(4), 500 + changes - 6);
    }
  }

  private static void changesBehindUndo() {
    Check.sentence("Promise 31", "Undoes the latest change");
    PhaseLights x = new PhaseLights();
    for (int i = 1; i <= 6; i++) x.set(CAP, 500 + i);
    x.undo();
    x.undo();
    x.set(LIMIT, 1000);
    due("count(8)", x.count(8), 5);
    due("undo()", x.undo(), 4);
    due("count(5)", x.count(5), 7000);
    due("count(4)", x.count(4), 504);
    due("undo()", x.undo(), 3);
    due("count(4)", x.count(4), 503);
    for (int i = 1; i <= 4; i++) x.set(HOLD, i);
    due("count(8)", x.count(8), 6);
    for (int left = 5; left >= 2; left--) due("undo()", x.undo(), left);
    due("count(6)", x.count(6), 3);
    due("count(4)", x.count(4), 503);
    due("undo()", x.undo(), 1);
    due("count(4)", x.count(4), 502);
    due("undo()", x.undo(), 0);
    due("count(4)", x.count(4), 501);
  }

  private static void undoReturns() {
    Check.sentence("Promise 31", "Returns how many changes can be undone then");
    PhaseLights x = new PhaseLights();
    x.tick(1);
    due("undo() of one", x.undo(), 0);
    x.tick(1);
    x.tick(1);
    due("undo() of two", x.undo(), 1);
    due("count(8)", x.count(8), 1);
    due("undo() of one", x.undo(), 0);
    due("count(8)", x.count(8), 0);
  }

  private static void undoNotPossible() {
    Check.sentence("Promise 31", "NOT_POSSIBLE if there is none.");
    PhaseLights x = new PhaseLights();
    due("undo() of a new object", x.undo(), NOT_POSSIBLE);
    due("undo() again", x.undo(), NOT_POSSIBLE);
    due("count(8)", x.count(8), 0);
    x.set(CAP, 600);
    x.undo();
    due("undo() behind all", x.undo(), NOT_POSSIBLE);
    due("count(4)", x.count(4), 2400);
    x.set(CAP, 601);
    due("count(8)", x.count(8), 1);
    due("undo()", x.undo(), 0);
    due("count(4)", x.count(4), 2400);
  }

  private static void eachChangeIsUndone() {
    Check.sentence("Promise 31", "everything except the pad, the slots and the history is as it was before it");
    changes().forEach((name, change) -> {
      PhaseLights x = show();
      String before = Shows.picture(x);
      Check.holds(name + " is no error", change.applyAsInt(x) >= 0);
      due("count(8) behind " + name, x.count(8), 2);
      Check.holds(name + " changes something", !Shows.picture(x).equals(before));
      due("undo() of " + name, x.undo(), 1);
      Check.same("all behind undo() of " + name, Shows.picture(x), before);
    });
  }

  private static void nothingDifferent() {
    Check.sentence("Promise 31", "each method that is a change, and returns no error, records the state before it "
        + "(also if nothing is different then)");
    changesOfNothing().forEach((name, change) -> {
      PhaseLights x = Shows.rig(2, 1000);
      x.patch(0, 1, NONE);
      x.record(0, 0, 5);
      x.spread(1);
      x.save(1);
      Check.text(x, "g0");
      Shows.undoAll(x);
      x.restore(1);
      String before = Shows.picture(x);
      Check.holds(name + " is no error", change.applyAsInt(x) >= 0);
      due("count(8) behind " + name, x.count(8), 2);
      due("undo() of " + name, x.undo(), 1);
      Check.same("all behind undo() of " + name, Shows.picture(x), before);
      due("undo() of restore(1)", x.undo(), 0);
    });
  }

  private static void errorsRecordNothing() {
    Check.sentence("Promise 31", "each method that is a change, and returns no error, records the state before it");
    PhaseLights x = Shows.rig(12, 1000);
    Shows.undoAll(x);
    for (int i = 0; i < 7; i++) x.hang(0, 0, 0);
    for (int t = 0; t < 5; t++) x.type(100, 1, 1);
    Shows.undoAll(x);
    x.set(CAP, 700);
    int[] got = {x.set(CAP, 499), x.type(99, 1, 1), x.days(0, 3, 2), x.hang(0, 0, 12), x.takeDown(0, 12),
        x.patch(0, 12, 0), x.feed(0, 12, 0), x.spread(3), x.at(0, 0, 101), x.record(0, 0, 51), x.go(0, 0),
        x.reset(3), x.tick(101), x.carryOut(0), x.carryOut(3), x.restore(0), x.restore(2), x.save(2)};
    int[] want = {BAD_VALUE, BAD_VALUE, BAD_VALUE, NO_SUCH, NO_SUCH, NO_SUCH, NO_SUCH, NO_SUCH, BAD_VALUE, BAD_VALUE,
        NOT_POSSIBLE, NO_SUCH, BAD_VALUE, BAD_TEXT, NO_SUCH, NOT_POSSIBLE, BAD_VALUE, BAD_VALUE};
    for (int i = 0; i < got.length; i++) due("the refused call " + i, got[i], want[i]);
    due("count(8)", x.count(8), 1);
    due("undo()", x.undo(), 0);
    due("count(4), undone is the latest change", x.count(4), 2400);
  }

  private static void looksRecordNothing() {
    Check.sentence("Promise 31", "each method that is a change (those that look are none)");
    PhaseLights x = show();
    x.lamp(0, 0, 4);
    x.dimmer(0, 0, 5);
    x.phase(0, 0, 4);
    x.cue(0, 0, 2);
    x.inCue(0, 0, 0);
    x.of(0, 8);
    x.hire(0, 0, 2);
    x.count(2);
    x.ifGo(0, 0, 3);
    x.safeTicks(0, 1);
    x.bestFeed(0, 3);
    x.ifDays(0, 0, 6);
    x.fault();
    x.put('x');
    x.wipe();
    x.save(0);
    due("count(8)", x.count(8), 1);
  }

  private static void undoLeavesThePad() {
    Check.sentence("Promise 31", "everything except the pad");
    PhaseLights x = new PhaseLights();
    Check.text(x, "0@1;");
    x.set(CAP, 600);
    Check.text(x, "x");
    x.undo();
    due("count(7)", x.count(7), 5);
    due("fault()", x.fault(), NONE);
    Check.text(x, ";x");
    x.carryOut(0);
    due("undo() of carryOut(0)", x.undo(), 0);
    due("count(7), the pad stays empty", x.count(7), 0);
    x.tick(1);
    x.wipe();
    Check.text(x, "g0");
    x.undo();
    due("count(7)", x.count(7), 2);
  }

  private static void undoLeavesTheSlots() {
    Check.sentence("Promise 31", "everything except .. the slots");
    PhaseLights x = new PhaseLights();
    x.set(CAP, 600);
    x.save(0);
    x.undo();
    due("count(4)", x.count(4), 2400);
    due("restore(0), saved behind the change", x.restore(0), 0);
    due("count(4)", x.count(4), 600);
    x.undo();
    x.set(CAP, 700);
    x.save(0);
    x.undo();
    x.undo();
    due("restore(0), overwritten behind the change", x.restore(0), 0);
    due("count(4)", x.count(4), 700);
  }

  private static void undoOfUndo() {
    Check.sentence("Promise 31", "(each method that is a change; undo() itself is none)");
    PhaseLights x = new PhaseLights();
    x.set(CAP, 600);
    x.set(CAP, 700);
    due("undo()", x.undo(), 1);
    due("count(4)", x.count(4), 600);
    due("undo()", x.undo(), 0);
    due("count(4)", x.count(4), 2400);
  }

  private static void undoOfTrips() {
    Check.sentence("Promise 31", "everything .. is as it was before it (trips and counts)");
    PhaseLights x = Shows.lit(1000, 100, 99, 0, 99);
    x.set(CAP, 999);
    x.set(LIMIT, 1000);
    x.set(HOLD, 3);
    x.tick(1);
    x.set(LIMIT, 1989);
    x.tick(1);
    due("dimmer(0, 0, 3)", x.dimmer(0, 0, 3), 2);
    due("phase(0, 0, 2)", x.phase(0, 0, 2), 2);
    due("tick(1)", x.tick(1), 1);
    due("of(0, 6)", x.of(0, 6), 1);
    x.undo();
    due("of(0, 6)", x.of(0, 6), 0);
    due("dimmer(0, 0, 3)", x.dimmer(0, 0, 3), 2);
    due("phase(0, 0, 2)", x.phase(0, 0, 2), 2);
    x.set(CAP, 1000);
    due("tick(1)", x.tick(1), 1);
    due("of(0, 7)", x.of(0, 7), 1);
    x.reset(0);
    due("of(0, 7)", x.of(0, 7), 0);
    x.undo();
    due("of(0, 7) behind undo() of reset(0)", x.of(0, 7), 1);
    x.undo();
    due("of(0, 7)", x.of(0, 7), 0);
    due("phase(0, 0, 2)", x.phase(0, 0, 2), 2);
    due("dimmer(0, 0, 3)", x.dimmer(0, 0, 3), 2);
    x.undo();
    due("tick(1), as before", x.tick(1), 1);
  }

  private static void undoOfFades() {
    Check.sentence("Promise 31", "everything .. is as it was before it (fades)");
    PhaseLights x = Shows.lit(100, 80);
    Shows.cue(x, 0, 8, 0);
    Shows.cue(x, 1, 2, 100);
    x.go(0, 0);
    x.tick(2);
    due("lamp(0, 0, 3)", x.lamp(0, 0, 3), 60);
    x.go(0, 1);
    x.tick(2);
    due("lamp(0, 0, 3)", x.lamp(0, 0, 3), 100);
    x.undo();
    due("lamp(0, 0, 3)", x.lamp(0, 0, 3), 60);
    due("of(0, 4)", x.of(0, 4), 2);
    x.undo();
    due("of(0, 4)", x.of(0, 4), 6);
    x.tick(3);
    due("lamp(0, 0, 3), the first one goes on", x.lamp(0, 0, 3), 30);
    x.undo();
    x.undo();
    due("lamp(0, 0, 3)", x.lamp(0, 0, 3), 80);
    due("of(0, 4)", x.of(0, 4), 8);
    x.undo();
    due("of(0, 4), ahead of the start", x.of(0, 4), 0);
    x.tick(5);
    due("lamp(0, 0, 3)", x.lamp(0, 0, 3), 80);
  }

  private static void undoOfTypes() {
    Check.sentence("Promise 31", "everything .. is as it was before it (types)");
    PhaseLights x = new PhaseLights();
    x.type(1000, 1, 5);
    x.undo();
    due("count(0)", x.count(0), 0);
    due("hang(0, 0, 0)", x.hang(0, 0, 0), NO_SUCH);
    due("hire(0, 0, 0)", x.hire(0, 0, 0), NO_SUCH);
    due("type(200, 0, 7)", x.type(200, 0, 7), 0);
    x.hang(0, 0, 0);
    Shows.light(x, 100);
    due("lamp(0, 0, 4)", x.lamp(0, 0, 4), 200);
    due("hire(0, 0, 1)", x.hire(0, 0, 1), 1);
    due("hire(0, 0, 2)", x.hire(0, 0, 2), 0);
  }

  private static void ordersRecordNothing() {
    Check.sentence("Promise 31", "An order of a text records nothing by itself.");
    PhaseLights x = Shows.rig(3, 100);
    int before = x.count(8);
    Check.text(x, "0>2@9;0+1+2@8;r0/3;r1/4;r2/5;g0;g1;x");
    due("carryOut(0)", x.carryOut(0), 8);
    due("count(8)", x.count(8), before + 1);
    due("undo()", x.undo(), before);
    due("lamp(0, 0, 2)", x.lamp(0, 0, 2), 0);
    due("of(0, 3)", x.of(0, 3), 0);
    due("of(0, 4)", x.of(0, 4), 0);
  }

  // ---- save

  private static void saveReturns() {
    Check.sentence("Promise 32", "Returns the lamps of all rigs");
    PhaseLights x = new PhaseLights();
    due("save(0) without lamps", x.save(0), 0);
    x.type(100, 1, 1);
    x.hang(2, 0, NONE);
    due("save(1) of one lamp", x.save(1), 1);
    for (int i = 0; i < 12; i++) for (int p = 0; p < 3; p++) x.hang(p, 0, 0);
    due("save(0) of full rigs", x.save(0), 36);
    due("restore(1)", x.restore(1), 1);
    due("restore(0)", x.restore(0), 36);
    x.takeDown(1, 0);
    due("save(1)", x.save(1), 35);
  }

  private static void saveOverwrites() {
    Check.sentence("Promise 32", "and overwrites what was saved there");
    PhaseLights x = new PhaseLights();
    for (int i = 0; i < 4; i++) {
      x.set(CAP, 600 + i);
      x.save(1);
    }
    x.set(CAP, 999);
    x.restore(1);
    due("count(4)", x.count(4), 603);
    x.type(100, 1, 1);
    x.hang(0, 0, 0);
    x.record(0, 7, 9);
    x.save(1);
    Shows.undoAll(x);
    x.save(1);
    due("restore(1), of less than before", x.restore(1), 0);
    due("count(0)", x.count(0), 0);
    due("of(0, 3)", x.of(0, 3), 0);
  }

  private static void saveIsNoChange() {
    Check.sentence("Promise 32", "Saves everything except the pad, the history and the slots (this is no change)");
    PhaseLights x = new PhaseLights();
    x.save(0);
    due("count(8)", x.count(8), 0);
    x.set(CAP, 600);
    x.set(CAP, 700);
    x.save(0);
    x.undo();
    x.undo();
    due("restore(0)", x.restore(0), 0);
    due("count(8), the history was not saved", x.count(8), 1);
    due("undo()", x.undo(), 0);
    due("count(4)", x.count(4), 2400);
  }

  private static void saveLeavesThePad() {
    Check.sentence("Promise 32", "Saves everything except the pad");
    PhaseLights x = new PhaseLights();
    Check.text(x, "x;x");
    x.save(0);
    due("count(7)", x.count(7), 3);
    x.wipe();
    Check.text(x, "g");
    x.restore(0);
    due("count(7)", x.count(7), 1);
    due("fault()", x.fault(), 1);
  }

  private static void saveErrors() {
    Check.sentence("Promise 32", "`slot`: 0 or 1 / BAD_VALUE if there is no such slot.");
    PhaseLights x = new PhaseLights();
    for (int slot : new int[] {Integer.MIN_VALUE, -32, -1, 2, 3, 32, 33, Integer.MAX_VALUE}) {
      due("save(" + slot + ")", x.save(slot), BAD_VALUE);
    }
    due("restore(0)", x.restore(0), NOT_POSSIBLE);
    due("restore(1)", x.restore(1), NOT_POSSIBLE);
    due("save(0)", x.save(0), 0);
    due("save(1)", x.save(1), 0);
  }

  // ---- restore

  private static void restoreIsWhole() {
    Check.sentence("Promise 33", "Restores what was saved last in a slot");
    changes().forEach((name, change) -> {
      PhaseLights x = show();
      x.save(0);
      String saved = Shows.picture(x);
      change.applyAsInt(x);
      x.restore(0);
      Check.same("all behind restore(0) behind " + name, Shows.picture(x), saved);
    });
  }

  /** Another type bears the same number, when the first one comes back. */
  private static void restoreOfTypes() {
    Check.sentence("Promise 33", "Restores what was saved last in a slot (types)");
    PhaseLights x = new PhaseLights();
    x.type(1000, 1, 5);
    x.hang(0, 0, 0);
    x.hang(0, 0, 0);
    Shows.cue(x, 0, 1, 100, 50);
    x.save(0);
    Shows.undoAll(x);
    due("type(200, 20, 7)", x.type(200, 20, 7), 0);
    x.hang(0, 0, 0);
    due("restore(0)", x.restore(0), 2);
    due("cue(0, 0, 2), the watts", x.cue(0, 0, 2), 1500);
    due("hire(0, 0, 1), the stock", x.hire(0, 0, 1), 1);
    due("hire(0, 0, 2), the price", x.hire(0, 0, 2), 5);
    due("undo()", x.undo(), 2);
    Shows.cue(x, 0, 1, 100);
    due("cue(0, 0, 2), the watts behind undo()", x.cue(0, 0, 2), 200);
    due("hire(0, 0, 1), the stock", x.hire(0, 0, 1), 0);
    due("hire(0, 0, 2), the price", x.hire(0, 0, 2), 7);
  }

  private static void restoreReturns() {
    Check.sentence("Promise 33", "Returns the lamps of all rigs then");
    PhaseLights x = new PhaseLights();
    x.save(0);
    x.type(100, 1, 1);
    for (int i = 0; i < 12; i++) for (int p = 0; p < 3; p++) x.hang(p, 0, 0);
    x.save(1);
    due("restore(0), no lamps", x.restore(0), 0);
    due("of(2, 2)", x.of(2, 2), 0);
    due("restore(1), full rigs", x.restore(1), 36);
    due("of(2, 2)", x.of(2, 2), 12);
  }

  private static void slotKeeps() {
    Check.sentence("Promise 33", "which keeps it");
    PhaseLights x = new PhaseLights();
    x.set(CAP, 600);
    x.save(0);
    for (int i = 0; i < 3; i++) {
      x.set(CAP, 700 + i);
      due("restore(0)", x.restore(0), 0);
      due("count(4)", x.count(4), 600);
      x.type(100, 1, 1);
      x.hang(0, 0, 0);
      x.feed(1, 1, 0);
    }
    due("restore(0), at the end", x.restore(0), 0);
    due("count(0)", x.count(0), 0);
    due("dimmer(1, 1, 0)", x.dimmer(1, 1, 0), 1);
  }

  private static void slotsAreApart() {
    Check.sentence("Promise 33", "`slot`: 0 or 1");
    PhaseLights x = new PhaseLights();
    x.set(CAP, 600);
    x.save(0);
    x.set(CAP, 700);
    x.type(100, 1, 1);
    x.hang(0, 0, 0);
    x.save(1);
    x.set(CAP, 800);
    x.restore(0);
    due("count(4) of the slot 0", x.count(4), 600);
    due("count(0) of the slot 0", x.count(0), 0);
    x.restore(1);
    due("count(4) of the slot 1", x.count(4), 700);
    due("count(0) of the slot 1", x.count(0), 1);
    due("of(0, 2) of the slot 1", x.of(0, 2), 1);
    x.restore(0);
    due("count(4) of the slot 0", x.count(4), 600);
    x.save(1);
    x.set(CAP, 900);
    x.restore(1);
    due("count(4) of the slot 1", x.count(4), 600);
  }

  private static void restoreIsAChange() {
    Check.sentence("Promise 33", "This is a change.");
    PhaseLights x = new PhaseLights();
    x.save(0);
    due("restore(0)", x.restore(0), 0);
    due("count(8)", x.count(8), 1);
    x.set(CAP, 600);
    x.restore(0);
    due("count(4)", x.count(4), 2400);
    due("undo()", x.undo(), 2);
    due("count(4)", x.count(4), 600);
    due("undo()", x.undo(), 1);
    due("count(4)", x.count(4), 2400);
  }

  private static void restoreLeaves() {
    Check.sentence("Promise 33", "(what is restored is everything except the pad, the history and the slots)");
    PhaseLights x = new PhaseLights();
    x.save(0);
    x.set(CAP, 600);
    x.save(1);
    x.set(CAP, 700);
    Check.text(x, "x;");
    x.restore(0);
    due("count(7)", x.count(7), 2);
    due("count(8)", x.count(8), 3);
    due("restore(1), the other slot stays", x.restore(1), 0);
    due("count(4)", x.count(4), 600);
    x.undo();
    due("undo(), the history stays", x.undo(), 2);
    due("count(4)", x.count(4), 700);
  }

  private static void restoreErrors() {
    Check.sentence("Promise 33", "BAD_VALUE if there is no such slot; NOT_POSSIBLE if nothing was saved in it.");
    PhaseLights x = new PhaseLights();
    for (int slot : new int[] {Integer.MIN_VALUE, -32, -31, -1, 2, 3, 32, 33, Integer.MAX_VALUE}) {
      due("restore(" + slot + ")", x.restore(slot), BAD_VALUE);
    }
    due("restore(0)", x.restore(0), NOT_POSSIBLE);
    due("restore(1)", x.restore(1), NOT_POSSIBLE);
    x.save(1);
    due("restore(0), nothing saved in it", x.restore(0), NOT_POSSIBLE);
    due("restore(1)", x.restore(1), 0);
    due("restore(2)", x.restore(2), BAD_VALUE);
    PhaseLights y = new PhaseLights();
    y.save(0);
    due("restore(1), nothing saved in it", y.restore(1), NOT_POSSIBLE);
    due("restore(0)", y.restore(0), 0);
  }

  private static void savedOnceStaysSaved() {
    Check.sentence("Promise 33", "NOT_POSSIBLE if nothing was saved in it (undo() and restore() take nothing out)");
    PhaseLights x = new PhaseLights();
    x.save(0);
    x.set(CAP, 600);
    x.save(1);
    x.undo();
    due("restore(1) behind undo()", x.restore(1), 0);
    x.restore(0);
    due("restore(1) behind restore(0), a state ahead of save(1)", x.restore(1), 0);
    due("count(4)", x.count(4), 600);
  }
}
