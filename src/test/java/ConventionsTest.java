import java.util.ArrayList;
import java.util.List;
import java.util.function.ToIntFunction;

/** The document's sentences on edges: its beginning, "CONVENTIONS" and "Settings". */
public final class ConventionsTest {
  private static final int NO_SUCH = -1, BAD_VALUE = -2, BAD_TEXT = -3, TOO_MANY = -4, NOT_POSSIBLE = -5, NONE = -6;
  private static final int CAP = 0, LIMIT = 1, HOLD = 2;
  private static final int MIN = Integer.MIN_VALUE, MAX = Integer.MAX_VALUE;

  private record Call(String name, int due, ToIntFunction<PhaseLights> made) {
  }

  private static final List<Call> CALLS = new ArrayList<>();

  private ConventionsTest() {
  }

  public static void main(String[] args) {
    lastCalls();
    firstErrorIsAnswered();
    errorsChangeNothing();
    errorsOfTextsChangeNothing();
    looksChangeNothing();
    noneIsNoError();
    noneIsNoNumber();
    numberedFromZero();
    farNumbers();
    setsAreMasks();
    divisionsAreRoundedDown();
    cap();
    limit();
    hold();
    noOtherSettings();
    Check.end();
  }

  private static void due(String call, long got, long want) {
    Check.due(call, got, want);
  }

  private static void lastCalls() {
    Check.sentence("What it is", "An object is used for at most 512 calls after it has been made");
    PhaseLights x = new PhaseLights();
    for (int i = 0; i < 509; i++) x.set(CAP, 500 + i);
    due("the 510th call, set(CAP, 3000)", x.set(CAP, 3000), 1008);
    due("the 511th call, undo()", x.undo(), 5);
    due("the 512th call, count(4)", x.count(4), 1008);
    PhaseLights y = new PhaseLights();
    for (int i = 0; i < 510; i++) y.put(33 + i % 90);
    due("the 511th call, fault()", y.fault(), 0);
    due("the 512th call, wipe()", y.wipe(), 60);
  }

  // ---- errors

  private static void firstErrorIsAnswered() {
    Check.sentence("CONVENTIONS", "it names its errors in the order in which they are checked, "
        + "and the first one that applies is returned");
    PhaseLights x = Shows.busy();
    Check.text(x, "0@5;012345670123456701234567012345670123456701234567012345");
    due("type(99, 0, 0) of 6", x.type(99, 0, 0), BAD_VALUE);
    due("days(3, 0, 7)", x.days(3, 0, 7), NO_SUCH);
    due("hang(2, 6, 0) on a full rig", x.hang(2, 6, 0), NO_SUCH);
    due("hang(2, 0, 12) on a full rig", x.hang(2, 0, 12), NO_SUCH);
    due("at(3, 0, 101)", x.at(3, 0, 101), NO_SUCH);
    due("at(0, 3, 101)", x.at(0, 3, 101), NO_SUCH);
    due("record(3, 0, 51)", x.record(3, 0, 51), NO_SUCH);
    due("record(0, 8, 51)", x.record(0, 8, 51), NO_SUCH);
    due("go(3, 5), not recorded", x.go(3, 5), NO_SUCH);
    due("carryOut(3) of a fault", x.carryOut(3), NO_SUCH);
    due("lamp(3, 0, 5)", x.lamp(3, 0, 5), NO_SUCH);
    due("lamp(0, 3, 5)", x.lamp(0, 3, 5), NO_SUCH);
    due("dimmer(3, 0, 6)", x.dimmer(3, 0, 6), NO_SUCH);
    due("dimmer(0, 12, 6)", x.dimmer(0, 12, 6), NO_SUCH);
    due("phase(3, 0, 5)", x.phase(3, 0, 5), NO_SUCH);
    due("phase(0, 3, 5)", x.phase(0, 3, 5), NO_SUCH);
    due("cue(3, 0, 3)", x.cue(3, 0, 3), NO_SUCH);
    due("cue(0, 8, 3)", x.cue(0, 8, 3), NO_SUCH);
    due("cue(0, 7, 3), not recorded", x.cue(0, 7, 3), BAD_VALUE);
    due("of(3, 9)", x.of(3, 9), NO_SUCH);
    due("hire(6, 7, 3)", x.hire(6, 7, 3), NO_SUCH);
    due("ifGo(3, 7, 4)", x.ifGo(3, 7, 4), NO_SUCH);
    due("ifGo(0, 8, 4)", x.ifGo(0, 8, 4), NO_SUCH);
    due("ifGo(0, 7, 4), not recorded", x.ifGo(0, 7, 4), BAD_VALUE);
    due("safeTicks(3, 7)", x.safeTicks(3, 7), NO_SUCH);
    due("ifDays(3, 0, 7)", x.ifDays(3, 0, 7), NO_SUCH);
    due("put of a space to 58", x.put(Check.packed("ab c")), BAD_VALUE);
    due("put with a bit too many to 58", x.put(0x0100414141L), BAD_VALUE);
    due("restore(2), nothing saved", x.restore(2), BAD_VALUE);
  }

  private static void refused(String name, int due, ToIntFunction<PhaseLights> made) {
    CALLS.add(new Call(name, due, made));
  }

  private static void errorsChangeNothing() {
    Check.sentence("CONVENTIONS", "A call that returns an error changes nothing.");
    CALLS.clear();
    refusedStock();
    refusedRigs();
    refusedDesk();
    refusedLooks();
    String want = Shows.wholePicture(withText("0@7;g0;1@9"));
    for (Call call : CALLS) {
      PhaseLights x = withText("0@7;g0;1@9");
      due(call.name, call.made.applyAsInt(x), call.due);
      Check.same("all behind " + call.name, Shows.wholePicture(x), want);
    }
    PhaseLights y = Shows.busy();
    Shows.undoAll(y);
    String before = Shows.picture(y);
    due("undo() of nothing", y.undo(), NOT_POSSIBLE);
    Check.same("all behind undo() of nothing", Shows.picture(y), before);
  }

  private static PhaseLights withText(String text) {
    PhaseLights x = Shows.busy();
    Check.text(x, text);
    return x;
  }

  private static void refusedStock() {
    int[][] sets = {{CAP, 499}, {CAP, 6001}, {LIMIT, 999}, {LIMIT, 20001}, {HOLD, 0}, {HOLD, 21}, {-1, 600}, {3, 600}};
    for (int[] s : sets) refused("set(" + s[0] + ", " + s[1] + ")", BAD_VALUE, x -> x.set(s[0], s[1]));
    int[][] types = {{99, 1, 1}, {2001, 1, 1}, {100, -1, 1}, {100, 21, 1}, {100, 1, -1}, {100, 1, 51}};
    for (int[] t : types) {
      refused("type(" + t[0] + ", " + t[1] + ", " + t[2] + ")", BAD_VALUE, x -> x.type(t[0], t[1], t[2]));
    }
    refused("type(500, 1, 1), the seventh", TOO_MANY, x -> x.type(500, 1, 1));
    int[][] days = {{-1, 0}, {7, 7}, {3, 2}, {3, 7}, {0, -1}};
    for (int[] d : days) {
      refused("days(0, " + d[0] + ", " + d[1] + ")", BAD_VALUE, x -> x.days(0, d[0], d[1]));
      refused("ifDays(0, " + d[0] + ", " + d[1] + ")", BAD_VALUE, x -> x.ifDays(0, d[0], d[1]));
    }
  }

  private static void refusedRigs() {
    for (int p : new int[] {-1, 3}) {
      refused("days of premiere " + p, NO_SUCH, x -> x.days(p, 0, 0));
      refused("hang of premiere " + p, NO_SUCH, x -> x.hang(p, 0, 0));
      refused("takeDown of premiere " + p, NO_SUCH, x -> x.takeDown(p, 0));
      refused("patch of premiere " + p, NO_SUCH, x -> x.patch(p, 0, 0));
      refused("feed of premiere " + p, NO_SUCH, x -> x.feed(p, 0, 1));
      refused("spread of premiere " + p, NO_SUCH, x -> x.spread(p));
      refused("ifDays of premiere " + p, NO_SUCH, x -> x.ifDays(p, 0, 0));
    }
    for (int t : new int[] {-1, 6}) refused("hang of type " + t, NO_SUCH, x -> x.hang(0, t, 0));
    for (int d : new int[] {-1, 12}) {
      refused("hang on dimmer " + d, NO_SUCH, x -> x.hang(0, 0, d));
      refused("patch on dimmer " + d, NO_SUCH, x -> x.patch(0, 0, d));
      refused("feed of dimmer " + d, NO_SUCH, x -> x.feed(0, d, 0));
    }
    refused("hang on a full rig", TOO_MANY, x -> x.hang(2, 0, 0));
    for (int l : new int[] {-1, 3}) {
      refused("takeDown of lamp " + l, NO_SUCH, x -> x.takeDown(0, l));
      refused("patch of lamp " + l, NO_SUCH, x -> x.patch(0, l, 0));
    }
    for (int f : new int[] {-1, 3}) refused("feed on phase " + f, NO_SUCH, x -> x.feed(0, 0, f));
  }

  private static void refusedDesk() {
    for (int p : new int[] {-1, 3}) {
      refused("at of premiere " + p, NO_SUCH, x -> x.at(p, 0, 1));
      refused("record of premiere " + p, NO_SUCH, x -> x.record(p, 0, 1));
      refused("go of premiere " + p, NO_SUCH, x -> x.go(p, 0));
      refused("reset of premiere " + p, NO_SUCH, x -> x.reset(p));
      refused("carryOut of premiere " + p, NO_SUCH, x -> x.carryOut(p));
    }
    for (int l : new int[] {-1, 3}) refused("at of lamp " + l, NO_SUCH, x -> x.at(0, l, 1));
    for (int v : new int[] {-1, 101}) refused("at with level " + v, BAD_VALUE, x -> x.at(0, 0, v));
    for (int c : new int[] {-1, 8}) {
      refused("record of cue " + c, NO_SUCH, x -> x.record(0, c, 1));
      refused("go of cue " + c, NO_SUCH, x -> x.go(0, c));
    }
    for (int t : new int[] {-1, 0, 51}) refused("record with ticks " + t, BAD_VALUE, x -> x.record(0, 2, t));
    refused("go of a cue that is not recorded", NOT_POSSIBLE, x -> x.go(0, 7));
    for (int t : new int[] {-1, 0, 101}) refused("tick(" + t + ")", BAD_VALUE, x -> x.tick(t));
    for (int s : new int[] {-1, 2}) {
      refused("save(" + s + ")", BAD_VALUE, x -> x.save(s));
      refused("restore(" + s + ")", BAD_VALUE, x -> x.restore(s));
    }
    refused("restore(1), nothing saved", NOT_POSSIBLE, x -> x.restore(1));
  }

  private static void refusedLooks() {
    refused("lamp(0, 3, 0)", NO_SUCH, x -> x.lamp(0, 3, 0));
    refused("lamp(0, 0, 5)", BAD_VALUE, x -> x.lamp(0, 0, 5));
    refused("dimmer(0, 12, 0)", NO_SUCH, x -> x.dimmer(0, 12, 0));
    refused("dimmer(0, 0, 6)", BAD_VALUE, x -> x.dimmer(0, 0, 6));
    refused("phase(0, 3, 0)", NO_SUCH, x -> x.phase(0, 3, 0));
    refused("phase(0, 0, 5)", BAD_VALUE, x -> x.phase(0, 0, 5));
    refused("cue(0, 8, 0)", NO_SUCH, x -> x.cue(0, 8, 0));
    refused("cue(0, 0, 3)", BAD_VALUE, x -> x.cue(0, 0, 3));
    refused("inCue(0, 0, 3)", NO_SUCH, x -> x.inCue(0, 0, 3));
    refused("of(3, 0)", NO_SUCH, x -> x.of(3, 0));
    refused("of(0, 9)", BAD_VALUE, x -> x.of(0, 9));
    refused("hire(6, 0, 0)", NO_SUCH, x -> x.hire(6, 0, 0));
    refused("hire(0, 7, 0)", BAD_VALUE, x -> x.hire(0, 7, 0));
    refused("count(9)", BAD_VALUE, x -> x.count(9));
    refused("ifGo(0, 8, 0)", NO_SUCH, x -> x.ifGo(0, 8, 0));
    refused("ifGo(0, 0, 4)", BAD_VALUE, x -> x.ifGo(0, 0, 4));
    refused("ifGo(0, 7, 0)", NOT_POSSIBLE, x -> x.ifGo(0, 7, 0));
    refused("safeTicks(0, 8)", NO_SUCH, x -> x.safeTicks(0, 8));
    refused("safeTicks(0, 7)", NOT_POSSIBLE, x -> x.safeTicks(0, 7));
    refused("bestFeed(0, 12)", NO_SUCH, x -> x.bestFeed(0, 12));
  }

  private static void errorsOfTextsChangeNothing() {
    Check.sentence("CONVENTIONS", "A call that returns an error changes nothing.");
    CALLS.clear();
    String text = "0@7;0@8;0@9;0@7;0@8;0@9;0@7;0@8;0@9;0@7;0@8;0@9;0@7;0@8;x";
    refused("put(0)", BAD_VALUE, x -> x.put(0));
    refused("put of code 32", BAD_VALUE, x -> x.put(32));
    refused("put of code 127", BAD_VALUE, x -> x.put(127));
    refused("put of x and a space", BAD_VALUE, x -> x.put(Check.packed("x ")));
    refused("put of a space and x", BAD_VALUE, x -> x.put(Check.packed(" x")));
    refused("put with a bit too many", BAD_VALUE, x -> x.put(0x010078L));
    refused("put of four to 57", TOO_MANY, x -> x.put(Check.packed(";g0;")));
    String want = Shows.wholePicture(withText(text));
    for (Call call : CALLS) {
      PhaseLights x = withText(text);
      due(call.name, call.made.applyAsInt(x), call.due);
      Check.same("all behind " + call.name, Shows.wholePicture(x), want);
    }
    want = Shows.wholePicture(withText("0@7;r1/3;z"));
    PhaseLights x = withText("0@7;r1/3;z");
    due("carryOut(0) of a fault", x.carryOut(0), BAD_TEXT);
    Check.same("all behind carryOut(0) of a fault", Shows.wholePicture(x), want);
  }

  private static void looksChangeNothing() {
    Check.sentence("The calls", "---- what there is; nothing changes / ---- what if; nothing changes");
    CALLS.clear();
    for (int what = 0; what <= 8; what++) {
      int w = what;
      if (w <= 4) refused("lamp(0, 1, " + w + ")", 0, x -> x.lamp(0, 1, w));
      if (w <= 5) refused("dimmer(0, 0, " + w + ")", 0, x -> x.dimmer(0, 0, w));
      if (w <= 4) refused("phase(0, 0, " + w + ")", 0, x -> x.phase(0, 0, w));
      if (w <= 2) refused("cue(0, 0, " + w + ")", 0, x -> x.cue(0, 0, w));
      refused("of(0, " + w + ")", 0, x -> x.of(0, w));
      if (w <= 2) refused("hire(1, 3, " + w + ")", 0, x -> x.hire(1, 3, w));
      refused("count(" + w + ")", 0, x -> x.count(w));
      if (w <= 3) refused("ifGo(0, 1, " + w + ")", 0, x -> x.ifGo(0, 1, w));
    }
    refused("inCue(0, 0, 1)", 0, x -> x.inCue(0, 0, 1));
    refused("safeTicks(0, 1)", 0, x -> x.safeTicks(0, 1));
    refused("safeTicks(0, 0)", 0, x -> x.safeTicks(0, 0));
    for (int d = 0; d < 6; d++) {
      int dimmer = d;
      refused("bestFeed(0, " + d + ")", 0, x -> x.bestFeed(0, dimmer));
    }
    refused("ifDays(0, 0, 6)", 0, x -> x.ifDays(0, 0, 6));
    refused("ifDays(2, 5, 5)", 0, x -> x.ifDays(2, 5, 5));
    refused("fault()", 0, x -> x.fault());
    String want = Shows.wholePicture(withText("0@7;g0;1@9"));
    for (Call call : CALLS) {
      PhaseLights x = withText("0@7;g0;1@9");
      call.made.applyAsInt(x);
      Check.same("all behind " + call.name, Shows.wholePicture(x), want);
    }
  }

  // ---- NONE

  private static void noneIsNoError() {
    Check.sentence("CONVENTIONS", "NONE (-6) is not an error; it is returned only if no error applies.");
    PhaseLights x = new PhaseLights();
    x.type(1000, 1, 1);
    x.hang(1, 0, NONE);
    x.record(1, 1, 5);
    int before = x.count(8);
    due("patch(1, 0, 4), from none", x.patch(1, 0, 4), NONE);
    due("count(8), it was a change", x.count(8), before + 1);
    due("dimmer(1, 4, 4), it was a change", x.dimmer(1, 4, 4), 1);
    due("patch(1, 0, NONE)", x.patch(1, 0, NONE), 4);
    due("patch(1, 0, 12), from none", x.patch(1, 0, 12), NO_SUCH);
    due("lamp(1, 0, 1)", x.lamp(1, 0, 1), NONE);
    due("lamp(1, 1, 1)", x.lamp(1, 1, 1), NO_SUCH);
    due("inCue(1, 0, 0)", x.inCue(1, 0, 0), NONE);
    due("inCue(1, 0, 1)", x.inCue(1, 0, 1), NO_SUCH);
    due("inCue(1, 8, 0)", x.inCue(1, 8, 0), NO_SUCH);
    due("inCue(3, 0, 0)", x.inCue(3, 0, 0), NO_SUCH);
    due("ifGo(1, 1, 1)", x.ifGo(1, 1, 1), NONE);
    due("ifGo(1, 0, 1)", x.ifGo(1, 0, 1), NOT_POSSIBLE);
    due("ifGo(1, 8, 1)", x.ifGo(1, 8, 1), NO_SUCH);
    Check.text(x, "x");
    due("fault()", x.fault(), NONE);
    PhaseLights y = Shows.rig(1, 1000);
    y.set(CAP, 500);
    Shows.cue(y, 1, 5, 51);
    due("safeTicks(0, 1)", y.safeTicks(0, 1), NONE);
    due("safeTicks(0, 0)", y.safeTicks(0, 0), NOT_POSSIBLE);
    due("safeTicks(0, 8)", y.safeTicks(0, 8), NO_SUCH);
  }

  private static void noneIsNoNumber() {
    Check.sentence("Promise 5, 7", "`dimmer`: 0 to 11, or NONE");
    PhaseLights x = Shows.rig(1, 1000);
    due("hang(0, 0, NONE)", x.hang(0, 0, NONE), 1);
    due("patch(0, 0, NONE)", x.patch(0, 0, NONE), 0);
    for (int wrong : new int[] {-1, -2, -5, -7, 12, MIN, MAX}) {
      due("hang(0, 0, " + wrong + ")", x.hang(0, 0, wrong), NO_SUCH);
      due("patch(0, 0, " + wrong + ")", x.patch(0, 0, wrong), NO_SUCH);
    }
    due("hang(NONE, 0, 0)", x.hang(NONE, 0, 0), NO_SUCH);
    due("hang(0, NONE, 0)", x.hang(0, NONE, 0), NO_SUCH);
    due("patch(0, NONE, 0)", x.patch(0, NONE, 0), NO_SUCH);
    due("feed(0, NONE, 0)", x.feed(0, NONE, 0), NO_SUCH);
    due("feed(0, 0, NONE)", x.feed(0, 0, NONE), NO_SUCH);
    due("dimmer(0, NONE, 4)", x.dimmer(0, NONE, 4), NO_SUCH);
    due("bestFeed(0, NONE)", x.bestFeed(0, NONE), NO_SUCH);
  }

  // ---- numbers

  private static void numberedFromZero() {
    Check.sentence("CONVENTIONS", "Everything is numbered from 0.");
    PhaseLights x = new PhaseLights();
    for (int p = -1; p <= 3; p++) due("of(" + p + ", 2)", x.of(p, 2), p < 0 || p > 2 ? NO_SUCH : 0);
    for (int d = -1; d <= 12; d++) due("dimmer(2, " + d + ", 1)", x.dimmer(2, d, 1), d < 0 || d > 11 ? NO_SUCH : 0);
    for (int f = -1; f <= 3; f++) due("phase(2, " + f + ", 0)", x.phase(2, f, 0), f < 0 || f > 2 ? NO_SUCH : 0);
    for (int c = -1; c <= 8; c++) due("cue(2, " + c + ", 0)", x.cue(2, c, 0), c < 0 || c > 7 ? NO_SUCH : 0);
    due("hire(0, 0, 0) without types", x.hire(0, 0, 0), NO_SUCH);
    due("type(100, 0, 0), the first", x.type(100, 0, 0), 0);
    for (int d = -1; d <= 7; d++) due("hire(0, " + d + ", 0)", x.hire(0, d, 0), d < 0 || d > 6 ? BAD_VALUE : 0);
    due("lamp(2, 0, 0) without lamps", x.lamp(2, 0, 0), NO_SUCH);
    due("hang(2, 0, 0), the first", x.hang(2, 0, 0), 0);
    due("lamp(2, 0, 0)", x.lamp(2, 0, 0), 0);
    due("lamp(2, 1, 0)", x.lamp(2, 1, 0), NO_SUCH);
    due("lamp(2, -1, 0)", x.lamp(2, -1, 0), NO_SUCH);
    for (int s = -1; s <= 2; s++) due("save(" + s + ")", x.save(s), s < 0 || s > 1 ? BAD_VALUE : 1);
    due("set(-1, 600)", x.set(-1, 600), BAD_VALUE);
    due("set(0, 600)", x.set(0, 600), 2400);
  }

  private static void farNumbers() {
    Check.sentence("CONVENTIONS", "Everything is numbered from 0.");
    PhaseLights x = Shows.busy();
    for (int far : new int[] {MIN, MIN + 1, -65536, -256, 256, 65536, 1 << 30, MAX - 1, MAX}) {
      due("of(" + far + ", 0)", x.of(far, 0), NO_SUCH);
      due("of(0, " + far + ")", x.of(0, far), BAD_VALUE);
      due("lamp(0, " + far + ", 0)", x.lamp(0, far, 0), NO_SUCH);
      due("lamp(0, 0, " + far + ")", x.lamp(0, 0, far), BAD_VALUE);
      due("dimmer(0, " + far + ", 0)", x.dimmer(0, far, 0), NO_SUCH);
      due("phase(0, " + far + ", 0)", x.phase(0, far, 0), NO_SUCH);
      due("cue(0, " + far + ", 0)", x.cue(0, far, 0), NO_SUCH);
      due("hire(" + far + ", 0, 0)", x.hire(far, 0, 0), NO_SUCH);
      due("hire(0, " + far + ", 0)", x.hire(0, far, 0), BAD_VALUE);
      due("count(" + far + ")", x.count(far), BAD_VALUE);
      due("hang(0, " + far + ", 0)", x.hang(0, far, 0), NO_SUCH);
      due("hang(0, 0, " + far + ")", x.hang(0, 0, far), NO_SUCH);
      due("at(0, 0, " + far + ")", x.at(0, 0, far), BAD_VALUE);
      due("record(0, 0, " + far + ")", x.record(0, 0, far), BAD_VALUE);
      due("tick(" + far + ")", x.tick(far), BAD_VALUE);
      due("days(0, " + far + ", 6)", x.days(0, far, 6), BAD_VALUE);
      due("days(0, 0, " + far + ")", x.days(0, 0, far), BAD_VALUE);
      due("type(100, " + far + ", 0)", x.type(100, far, 0), BAD_VALUE);
      due("set(0, " + far + ")", x.set(0, far), BAD_VALUE);
      due("set(" + far + ", 1000)", x.set(far, 1000), BAD_VALUE);
      due("save(" + far + ")", x.save(far), BAD_VALUE);
      due("restore(" + far + ")", x.restore(far), BAD_VALUE);
    }
  }

  private static void setsAreMasks() {
    Check.sentence("CONVENTIONS", "Sets are bit masks.");
    PhaseLights x = new PhaseLights();
    due("of(1, 3), no cue", x.of(1, 3), 0);
    x.record(1, 0, 1);
    due("of(1, 3), the cue 0", x.of(1, 3), 1);
    for (int c = 1; c < 8; c++) x.record(1, c, 1);
    due("of(1, 3), all cues", x.of(1, 3), 255);
    x.record(2, 7, 1);
    due("of(2, 3), the cue 7", x.of(2, 3), 128);
    for (int d = 0; d < 12; d++) x.feed(0, d, 1);
    due("phase(0, 0, 3), no dimmer", x.phase(0, 0, 3), 0);
    due("phase(0, 1, 3), all dimmers", x.phase(0, 1, 3), 4095);
    x.feed(0, 11, 2);
    due("phase(0, 2, 3), the dimmer 11", x.phase(0, 2, 3), 2048);
    PhaseLights y = Shows.rig(12, 1000);
    y.set(CAP, 500);
    y.set(HOLD, 1);
    Shows.light(y, 100, 0, 0, 0, 0, 0, 0, 0, 0, 0, 0, 51);
    due("of(0, 6), the dimmers 0 and 11", y.of(0, 6), 2049);
    PhaseLights z = Shows.rig(12, 1000);
    z.set(LIMIT, 1000);
    z.set(HOLD, 1);
    Shows.light(z, 0, 0, 100, 0, 0, 1);
    due("of(0, 7), the phase 2", z.of(0, 7), 4);
  }

  private static void divisionsAreRoundedDown() {
    Check.sentence("CONVENTIONS", "All divisions are of numbers that are 0 or more, and rounded down");
    int[][] loads = {{199, 1, 1}, {199, 99, 197}, {199, 100, 199}, {101, 99, 99}, {150, 33, 49}, {100, 1, 1}, {199, 0, 0}};
    for (int[] l : loads) {
      due("lamp(0, 0, 4) of " + l[0] + " at " + l[1], Shows.lit(l[0], l[1]).lamp(0, 0, 4), l[2]);
    }
  }

  // ---- settings

  private static void setting(int setting, int least, int most, int first) {
    PhaseLights x = new PhaseLights();
    int count = 4 + setting;
    due("count(" + count + ") of a new object", x.count(count), first);
    due("set(" + setting + ", " + (least - 1) + ")", x.set(setting, least - 1), BAD_VALUE);
    due("set(" + setting + ", " + (most + 1) + ")", x.set(setting, most + 1), BAD_VALUE);
    due("count(" + count + ") behind errors", x.count(count), first);
    due("set(" + setting + ", " + least + ")", x.set(setting, least), first);
    due("count(" + count + ")", x.count(count), least);
    due("set(" + setting + ", " + most + ")", x.set(setting, most), least);
    due("count(" + count + ")", x.count(count), most);
    due("set(" + setting + ", " + most + ") again", x.set(setting, most), most);
    for (int other = 0; other < 3; other++) {
      if (other != setting) due("count(4 + " + other + ")", x.count(4 + other), new int[] {2400, 7000, 3}[other]);
    }
  }

  private static void cap() {
    Check.sentence("Settings", "CAP (500 to 6000; 2400)");
    setting(CAP, 500, 6000, 2400);
  }

  private static void limit() {
    Check.sentence("Settings", "LIMIT (1000 to 20000; 7000)");
    setting(LIMIT, 1000, 20000, 7000);
  }

  private static void hold() {
    Check.sentence("Settings", "HOLD (1 to 20; 3)");
    setting(HOLD, 1, 20, 3);
  }

  private static void noOtherSettings() {
    Check.sentence("Promise 2", "BAD_VALUE if there is no such setting, or the value is out of its range");
    PhaseLights x = new PhaseLights();
    for (int setting : new int[] {-2, -1, 3, 4}) {
      for (int value : new int[] {1, 3, 600, 2400, 7000}) {
        due("set(" + setting + ", " + value + ")", x.set(setting, value), BAD_VALUE);
      }
    }
    due("set(CAP, 7000)", x.set(CAP, 7000), BAD_VALUE);
    due("set(CAP, 3)", x.set(CAP, 3), BAD_VALUE);
    due("set(LIMIT, 500)", x.set(LIMIT, 500), BAD_VALUE);
    due("set(LIMIT, 20)", x.set(LIMIT, 20), BAD_VALUE);
    due("set(HOLD, 500)", x.set(HOLD, 500), BAD_VALUE);
    due("set(LIMIT, 6001)", x.set(LIMIT, 6001), 7000);
    due("count(8)", x.count(8), 1);
  }
}
