/** Objects that the tests of sentences begin with, and pictures of them: texts of what they answer. */
public final class Shows {
  public static final int NONE = PhaseLights.NONE;

  private Shows() {
  }

  /** Premiere 0 with so many lamps of the same watts, the lamp i on the dimmer i. */
  public static PhaseLights rig(int lamps, int watts) {
    PhaseLights x = new PhaseLights();
    x.type(watts, 20, 1);
    for (int i = 0; i < lamps; i++) x.hang(0, 0, i);
    return x;
  }

  /** A cue of premiere 0 with these levels. */
  public static void cue(PhaseLights x, int cue, int ticks, int... levels) {
    for (int i = 0; i < levels.length; i++) x.at(0, i, levels[i]);
    x.record(0, cue, ticks);
  }

  /** Lets premiere 0 give these levels, behind one tick, by its cue 7. */
  public static void light(PhaseLights x, int... levels) {
    cue(x, 7, 1, levels);
    x.go(0, 7);
    x.tick(1);
  }

  /** A rig() that gives these levels, with CAP and LIMIT so high that nothing is above them. */
  public static PhaseLights lit(int watts, int... levels) {
    PhaseLights x = rig(levels.length, watts);
    x.set(PhaseLights.CAP, 6000);
    x.set(PhaseLights.LIMIT, 20000);
    light(x, levels);
    return x;
  }

  public static void undoAll(PhaseLights x) {
    for (int i = 0; i < 7; i++) x.undo();
  }

  /** Something of everything: types, rigs (that of premiere 2 is full), a fade, a trip, counts, a slot, a text. */
  public static PhaseLights busy() {
    PhaseLights x = new PhaseLights();
    for (int t = 0; t < 6; t++) x.type(1000 + t, t, 10 * t);
    for (int i = 0; i < 12; i++) x.hang(2, i % 6, i);
    x.hang(0, 0, 3);
    x.hang(0, 1, 0);
    x.days(0, 2, 4);
    x.at(0, 1, 100);
    x.record(0, 0, 10);
    x.set(PhaseLights.CAP, 500);
    x.go(0, 0);
    x.tick(6);
    x.save(0);
    x.hang(0, 2, NONE);
    x.at(0, 0, 60);
    x.feed(0, 3, 2);
    x.record(0, 1, 4);
    x.patch(0, 0, 5);
    x.tick(1);
    return x;
  }

  /** What undo brings back and a slot keeps, in some 120 calls, none of which changes something. */
  public static String picture(PhaseLights x) {
    StringBuilder told = new StringBuilder(brief(x));
    for (int p = 0; p < 3; p++) {
      for (int what = 0; what <= 8; what++) told.append(' ').append(x.of(p, what));
      for (int l = 0; l < 3; l++) {
        for (int what = 0; what <= 3; what++) told.append(' ').append(x.lamp(p, l, what));
      }
    }
    for (int c = 0; c < 3; c++) {
      for (int what = 1; what <= 2; what++) told.append(' ').append(x.cue(0, c, what));
      for (int l = 0; l < 3; l++) told.append(' ').append(x.inCue(0, c, l));
    }
    for (int d = 0; d < 6; d++) {
      told.append(' ').append(x.dimmer(0, d, 0)).append(' ').append(x.dimmer(0, d, 3));
    }
    for (int f = 0; f < 3; f++) told.append(' ').append(x.phase(0, f, 2));
    return told.toString();
  }

  /** The same in 13 calls. */
  private static String brief(PhaseLights x) {
    StringBuilder told = new StringBuilder();
    for (int what = 0; what <= 6; what++) told.append(x.count(what)).append(' ');
    told.append(x.of(0, 2)).append(' ').append(x.of(0, 3)).append(' ').append(x.lamp(0, 0, 1)).append(' ');
    told.append(x.lamp(0, 0, 2)).append(' ').append(x.lamp(0, 1, 3)).append(' ').append(x.dimmer(0, 3, 0));
    return told.toString();
  }

  /** A picture also of the pad, the history and the slots; behind it the object is another one. */
  public static String wholePicture(PhaseLights x) {
    StringBuilder told = new StringBuilder(picture(x));
    told.append(" | ").append(x.count(7)).append(' ').append(x.count(8)).append(' ').append(x.fault());
    for (int i = 0; i < 7; i++) told.append(" | ").append(x.undo()).append(": ").append(brief(x));
    for (int slot = 0; slot < 2; slot++) told.append(" | ").append(x.restore(slot)).append(": ").append(brief(x));
    told.append(" | ").append(x.carryOut(0)).append(": ").append(picture(x));
    return told.toString();
  }
}
