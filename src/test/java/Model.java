import java.util.ArrayDeque;
import java.util.ArrayList;
import java.util.Deque;
import java.util.List;
import java.util.regex.Matcher;
import java.util.regex.Pattern;

/**
 * The document told a second time, in another way than the program: lamps are objects in lists, a state is
 * copied whole before each change, and a text is judged by a regular expression. ModelTest compares both.
 */
public final class Model {
  private static final int NO_SUCH = -1, BAD_VALUE = -2, BAD_TEXT = -3, TOO_MANY = -4, NOT_POSSIBLE = -5, NONE = -6;

  private static final String LAMP = "(?:10|11|[0-9])";
  private static final String SPAN = LAMP + "(?:>" + LAMP + ")?";
  private static final String LEVELS = SPAN + "(?:\\+" + SPAN + ")*@(?:100|[1-9][0-9]|[0-9])";
  private static final String RECORD = "r[0-7]/(?:50|[1-4][0-9]|[1-9])";
  private static final String ORDER = "(?:" + LEVELS + "|" + RECORD + "|g[0-7]|x)";
  private static final Pattern TEXT = Pattern.compile(ORDER + "(?:;" + ORDER + ")*");

  private static final class Lamp {
    int type, dimmer, wanted, level, from, to;
    int[] inCue = new int[8];
    Lamp copy() {
      Lamp l = new Lamp();
      l.type = type; l.dimmer = dimmer; l.wanted = wanted; l.level = level; l.from = from; l.to = to;
      l.inCue = inCue.clone();
      return l;
    }
  }

  /** A dimmer or a phase. */
  private static final class Unit {
    int phase, count;
    boolean out;
    Unit copy() {
      Unit u = new Unit();
      u.phase = phase; u.count = count; u.out = out;
      return u;
    }
  }

  private static final class Show {
    int first, last, fadeTicks, fadeDone;
    boolean fading;
    List<Lamp> rig = new ArrayList<>();
    List<Unit> dimmers = new ArrayList<>();
    List<Unit> phases = new ArrayList<>();
    Integer[] cues = new Integer[8];
    Show copy() {
      Show s = new Show();
      s.first = first; s.last = last; s.fadeTicks = fadeTicks; s.fadeDone = fadeDone; s.fading = fading;
      for (Lamp l : rig) s.rig.add(l.copy());
      for (Unit u : dimmers) s.dimmers.add(u.copy());
      for (Unit u : phases) s.phases.add(u.copy());
      s.cues = cues.clone();
      return s;
    }
  }

  private static final class World {
    int[] settings = {2400, 7000, 3};
    List<int[]> types = new ArrayList<>();
    List<Show> shows = new ArrayList<>();
    World copy() {
      World w = new World();
      w.settings = settings.clone();
      w.types = new ArrayList<>(types);
      for (Show s : shows) w.shows.add(s.copy());
      return w;
    }
  }

  private World world = new World();
  private final Deque<World> past = new ArrayDeque<>();
  private final World[] slots = new World[2];
  private String pad = "";

  public Model() {
    for (int p = 0; p < 3; p++) {
      Show s = new Show();
      for (int d = 0; d < 12; d++) {
        Unit u = new Unit();
        u.phase = d % 3;
        s.dimmers.add(u);
      }
      for (int f = 0; f < 3; f++) s.phases.add(new Unit());
      world.shows.add(s);
    }
  }

  private void change() {
    past.addLast(world.copy());
    if (past.size() > 6) past.removeFirst();
  }

  private Show show(int premiere) {
    return premiere < 0 || premiere > 2 ? null : world.shows.get(premiere);
  }

  private static boolean lampIn(Show s, int lamp) {
    return lamp >= 0 && lamp < s.rig.size();
  }

  private static boolean off(int value, int least, int most) {
    return value < least || value > most;
  }

  // ---- stock, premieres, rigs

  public int set(int setting, int value) {
    boolean good;
    switch (setting) {
      case 0: good = value >= 500 && value <= 6000; break;
      case 1: good = value >= 1000 && value <= 20000; break;
      case 2: good = value >= 1 && value <= 20; break;
      default: good = false;
    }
    if (!good) return BAD_VALUE;
    change();
    int old = world.settings[setting];
    world.settings[setting] = value;
    return old;
  }

  public int type(int watts, int stock, int price) {
    if (off(watts, 100, 2000) || off(stock, 0, 20) || off(price, 0, 50)) return BAD_VALUE;
    if (world.types.size() == 6) return TOO_MANY;
    change();
    world.types.add(new int[] {watts, stock, price});
    return world.types.size() - 1;
  }

  public int days(int premiere, int first, int last) {
    Show s = show(premiere);
    if (s == null) return NO_SUCH;
    if (off(first, 0, 6) || off(last, first, 6)) return BAD_VALUE;
    change();
    int old = 1 + s.last - s.first;
    s.first = first;
    s.last = last;
    return old;
  }

  public int hang(int premiere, int type, int dimmer) {
    Show s = show(premiere);
    if (s == null || off(type, 0, world.types.size() - 1)) return NO_SUCH;
    if (dimmer != NONE && off(dimmer, 0, 11)) return NO_SUCH;
    if (s.rig.size() == 12) return TOO_MANY;
    change();
    Lamp l = new Lamp();
    l.type = type;
    l.dimmer = dimmer;
    s.rig.add(l);
    return s.rig.size() - 1;
  }

  public int takeDown(int premiere, int lamp) {
    Show s = show(premiere);
    if (s == null || !lampIn(s, lamp)) return NO_SUCH;
    change();
    s.rig.remove(lamp);
    return s.rig.size();
  }

  public int patch(int premiere, int lamp, int dimmer) {
    Show s = show(premiere);
    if (s == null || !lampIn(s, lamp)) return NO_SUCH;
    if (dimmer != NONE && off(dimmer, 0, 11)) return NO_SUCH;
    change();
    int old = s.rig.get(lamp).dimmer;
    s.rig.get(lamp).dimmer = dimmer;
    return old;
  }

  public int feed(int premiere, int dimmer, int phase) {
    Show s = show(premiere);
    if (s == null || off(dimmer, 0, 11) || off(phase, 0, 2)) return NO_SUCH;
    change();
    int old = s.dimmers.get(dimmer).phase;
    s.dimmers.get(dimmer).phase = phase;
    return old;
  }

  public int spread(int premiere) {
    Show s = show(premiere);
    if (s == null) return NO_SUCH;
    change();
    List<int[]> order = new ArrayList<>();
    for (int d = 0; d < 12; d++) order.add(new int[] {d, worstOfDimmer(s, d)});
    order.sort((a, b) -> a[1] != b[1] ? b[1] - a[1] : a[0] - b[0]);
    int[] sum = new int[3];
    int moved = 0;
    for (int[] entry : order) {
      int phase = sum[0] <= sum[1] && sum[0] <= sum[2] ? 0 : sum[1] <= sum[2] ? 1 : 2;
      sum[phase] += entry[1];
      Unit u = s.dimmers.get(entry[0]);
      if (u.phase != phase) moved++;
      u.phase = phase;
    }
    return moved;
  }

  // ---- the desk, time

  public int at(int premiere, int lamp, int level) {
    Show s = show(premiere);
    if (s == null || !lampIn(s, lamp)) return NO_SUCH;
    if (off(level, 0, 100)) return BAD_VALUE;
    change();
    int old = s.rig.get(lamp).wanted;
    s.rig.get(lamp).wanted = level;
    return old;
  }

  public int record(int premiere, int cue, int ticks) {
    Show s = show(premiere);
    if (s == null || off(cue, 0, 7)) return NO_SUCH;
    if (off(ticks, 1, 50)) return BAD_VALUE;
    change();
    keep(s, cue, ticks);
    int recorded = 0;
    for (Integer t : s.cues) if (t != null) recorded++;
    return recorded;
  }

  private static void keep(Show s, int cue, int ticks) {
    s.cues[cue] = ticks;
    for (Lamp l : s.rig) l.inCue[cue] = l.wanted;
  }

  public int go(int premiere, int cue) {
    Show s = show(premiere);
    if (s == null || off(cue, 0, 7)) return NO_SUCH;
    if (s.cues[cue] == null) return NOT_POSSIBLE;
    change();
    start(s, cue, s.cues[cue]);
    return s.cues[cue];
  }

  private static void start(Show s, int cue, int ticks) {
    s.fading = true;
    s.fadeTicks = ticks;
    s.fadeDone = 0;
    for (Lamp l : s.rig) {
      l.from = l.level;
      l.to = l.inCue[cue];
    }
  }

  public int reset(int premiere) {
    Show s = show(premiere);
    if (s == null) return NO_SUCH;
    change();
    return clear(s);
  }

  private static int clear(Show s) {
    int out = 0;
    List<Unit> all = new ArrayList<>(s.dimmers);
    all.addAll(s.phases);
    for (Unit u : all) {
      if (u.out) out++;
      u.out = false;
      u.count = 0;
    }
    return out;
  }

  public int tick(int ticks) {
    if (off(ticks, 1, 100)) return BAD_VALUE;
    change();
    int trips = 0;
    for (Show s : world.shows) for (int t = 0; t < ticks; t++) trips += pass(s);
    return trips;
  }

  private int pass(Show s) {
    if (s.fading) {
      s.fadeDone++;
      for (Lamp l : s.rig) {
        int way = Math.abs(l.to - l.from) * s.fadeDone / s.fadeTicks;
        l.level = l.to > l.from ? l.from + way : l.from - way;
      }
      if (s.fadeDone == s.fadeTicks) s.fading = false;
    }
    List<Unit> dimmersToTrip = new ArrayList<>();
    for (int d = 0; d < 12; d++) judge(s.dimmers.get(d), loadOfDimmer(s, d), world.settings[0], dimmersToTrip);
    for (Unit u : dimmersToTrip) trip(u);
    List<Unit> phasesToTrip = new ArrayList<>();
    for (int f = 0; f < 3; f++) judge(s.phases.get(f), loadOfPhase(s, f), world.settings[1], phasesToTrip);
    for (Unit u : phasesToTrip) trip(u);
    return dimmersToTrip.size() + phasesToTrip.size();
  }

  private void judge(Unit u, int load, int most, List<Unit> toTrip) {
    if (load > most) {
      u.count++;
      if (u.count >= world.settings[2]) toTrip.add(u);
    } else {
      u.count = 0;
    }
  }

  private static void trip(Unit u) {
    u.out = true;
    u.count = 0;
  }

  public int carryOut(int premiere) {
    Show s = show(premiere);
    if (s == null) return NO_SUCH;
    if (fault() != NONE) return BAD_TEXT;
    change();
    String[] orders = pad.split(";");
    pad = "";
    int done = 0;
    for (String order : orders) {
      if (!obey(s, order)) break;
      done++;
    }
    return done;
  }

  private boolean obey(Show s, String order) {
    char sign = order.charAt(0);
    if (sign == 'x') {
      clear(s);
      return true;
    }
    if (sign == 'g') {
      int cue = Integer.parseInt(order.substring(1));
      if (s.cues[cue] == null) return false;
      start(s, cue, s.cues[cue]);
      return true;
    }
    if (sign == 'r') {
      String[] parts = order.substring(1).split("/");
      keep(s, Integer.parseInt(parts[0]), Integer.parseInt(parts[1]));
      return true;
    }
    String[] parts = order.split("@");
    for (String span : parts[0].split("\\+")) {
      String[] ends = span.split(">");
      int a = Integer.parseInt(ends[0]);
      int b = Integer.parseInt(ends[ends.length - 1]);
      for (int lamp = a; ; lamp += a < b ? 1 : -1) {
        if (!lampIn(s, lamp)) return false;
        s.rig.get(lamp).wanted = Integer.parseInt(parts[1]);
        if (lamp == b) break;
      }
    }
    return true;
  }

  // ---- loads

  private int loadNow(Show s, Lamp l) {
    if (l.dimmer == NONE) return 0;
    Unit d = s.dimmers.get(l.dimmer);
    if (d.out || s.phases.get(d.phase).out) return 0;
    return world.types.get(l.type)[0] * l.level / 100;
  }

  private int loadBy(Lamp l, int cue) {
    return l.dimmer == NONE ? 0 : world.types.get(l.type)[0] * l.inCue[cue] / 100;
  }

  private int loadOfDimmer(Show s, int dimmer) {
    return s.rig.stream().filter(l -> l.dimmer == dimmer).mapToInt(l -> loadNow(s, l)).sum();
  }

  private int loadOfPhase(Show s, int phase) {
    int sum = 0;
    for (int d = 0; d < 12; d++) if (s.dimmers.get(d).phase == phase) sum += loadOfDimmer(s, d);
    return sum;
  }

  private int worstOfDimmer(Show s, int dimmer) {
    int worst = 0;
    for (int c = 0; c < 8; c++) {
      if (s.cues[c] == null) continue;
      int sum = 0;
      for (Lamp l : s.rig) if (l.dimmer == dimmer) sum += loadBy(l, c);
      worst = Math.max(worst, sum);
    }
    return worst;
  }

  private int worstOfPhase(Show s, int phase) {
    int worst = 0;
    for (int c = 0; c < 8; c++) {
      if (s.cues[c] == null) continue;
      int sum = 0;
      for (Lamp l : s.rig) {
        if (l.dimmer != NONE && s.dimmers.get(l.dimmer).phase == phase) sum += loadBy(l, c);
      }
      worst = Math.max(worst, sum);
    }
    return worst;
  }

  // ---- what there is

  public int lamp(int premiere, int lamp, int what) {
    Show s = show(premiere);
    if (s == null || !lampIn(s, lamp)) return NO_SUCH;
    Lamp l = s.rig.get(lamp);
    if (what == 0) return l.type;
    if (what == 1) return l.dimmer;
    if (what == 2) return l.wanted;
    if (what == 3) return l.level;
    return what == 4 ? loadNow(s, l) : BAD_VALUE;
  }

  public int dimmer(int premiere, int dimmer, int what) {
    Show s = show(premiere);
    if (s == null || off(dimmer, 0, 11)) return NO_SUCH;
    Unit u = s.dimmers.get(dimmer);
    if (what == 0) return u.phase;
    if (what == 1) return loadOfDimmer(s, dimmer);
    if (what == 2) return u.out ? 1 : 0;
    if (what == 3) return u.count;
    if (what == 4) return (int) s.rig.stream().filter(l -> l.dimmer == dimmer).count();
    return what == 5 ? worstOfDimmer(s, dimmer) : BAD_VALUE;
  }

  public int phase(int premiere, int phase, int what) {
    Show s = show(premiere);
    if (s == null || off(phase, 0, 2)) return NO_SUCH;
    Unit u = s.phases.get(phase);
    if (what == 0) return loadOfPhase(s, phase);
    if (what == 1) return u.out ? 1 : 0;
    if (what == 2) return u.count;
    if (what == 3) {
      int set = 0;
      for (int d = 0; d < 12; d++) if (s.dimmers.get(d).phase == phase) set += 1 << d;
      return set;
    }
    return what == 4 ? worstOfPhase(s, phase) : BAD_VALUE;
  }

  public int cue(int premiere, int cue, int what) {
    Show s = show(premiere);
    if (s == null || off(cue, 0, 7)) return NO_SUCH;
    if (off(what, 0, 2)) return BAD_VALUE;
    if (s.cues[cue] == null) return 0;
    if (what == 0) return 1;
    return what == 1 ? s.cues[cue] : s.rig.stream().mapToInt(l -> loadBy(l, cue)).sum();
  }

  public int inCue(int premiere, int cue, int lamp) {
    Show s = show(premiere);
    if (s == null || off(cue, 0, 7) || !lampIn(s, lamp)) return NO_SUCH;
    return s.cues[cue] == null ? NONE : s.rig.get(lamp).inCue[cue];
  }

  public int of(int premiere, int what) {
    Show s = show(premiere);
    if (s == null) return NO_SUCH;
    int a = loadOfPhase(s, 0), b = loadOfPhase(s, 1), c = loadOfPhase(s, 2);
    if (what == 0) return s.first;
    if (what == 1) return s.last;
    if (what == 2) return s.rig.size();
    if (what == 3) {
      int set = 0;
      for (int q = 0; q < 8; q++) if (s.cues[q] != null) set += 1 << q;
      return set;
    }
    if (what == 4) return s.fading ? s.fadeTicks - s.fadeDone : 0;
    if (what == 5) return a + b + c;
    if (what == 6) return outSet(s.dimmers);
    if (what == 7) return outSet(s.phases);
    return what == 8 ? Math.max(a, Math.max(b, c)) - Math.min(a, Math.min(b, c)) : BAD_VALUE;
  }

  private static int outSet(List<Unit> units) {
    int set = 0;
    for (int i = 0; i < units.size(); i++) if (units.get(i).out) set += 1 << i;
    return set;
  }

  private int needed(int type, int day) {
    int needed = 0;
    for (Show s : world.shows) {
      if (s.first <= day && day <= s.last) for (Lamp l : s.rig) if (l.type == type) needed++;
    }
    return needed;
  }

  public int hire(int type, int day, int what) {
    if (off(type, 0, world.types.size() - 1)) return NO_SUCH;
    if (off(day, 0, 6)) return BAD_VALUE;
    int needed = needed(type, day);
    int missing = Math.max(0, needed - world.types.get(type)[1]);
    if (what == 0) return needed;
    if (what == 1) return missing;
    return what == 2 ? (needed - missing) * world.types.get(type)[2] : BAD_VALUE;
  }

  private int sumOfHire(int what) {
    int sum = 0;
    for (int t = 0; t < world.types.size(); t++) for (int d = 0; d < 7; d++) sum += hire(t, d, what);
    return sum;
  }

  public int count(int what) {
    switch (what) {
      case 0: return world.types.size();
      case 1: return sumOfHire(2);
      case 2: return sumOfHire(1);
      case 3:
        int best = 0;
        int[] on = new int[7];
        for (int d = 0; d < 7; d++) {
          for (int t = 0; t < world.types.size(); t++) on[d] += needed(t, d);
          if (on[d] > on[best]) best = d;
        }
        return best;
      case 4: return world.settings[0];
      case 5: return world.settings[1];
      case 6: return world.settings[2];
      case 7: return pad.length();
      case 8: return past.size();
      default: return BAD_VALUE;
    }
  }

  // ---- what if

  /** Trips, first trip, greatest load of a dimmer, of a phase. */
  private int[] tryCue(Show real, int cue, int ticks) {
    Show s = real.copy();
    start(s, cue, ticks);
    int[] seen = {0, NONE, 0, 0};
    for (int t = 1; t <= ticks + world.settings[2]; t++) {
      int trips = pass(s);
      seen[0] += trips;
      if (trips > 0 && seen[1] == NONE) seen[1] = t;
      for (int d = 0; d < 12; d++) seen[2] = Math.max(seen[2], loadOfDimmer(s, d));
      for (int f = 0; f < 3; f++) seen[3] = Math.max(seen[3], loadOfPhase(s, f));
    }
    return seen;
  }

  public int ifGo(int premiere, int cue, int what) {
    Show s = show(premiere);
    if (s == null || off(cue, 0, 7)) return NO_SUCH;
    if (off(what, 0, 3)) return BAD_VALUE;
    if (s.cues[cue] == null) return NOT_POSSIBLE;
    return tryCue(s, cue, s.cues[cue])[what];
  }

  public int safeTicks(int premiere, int cue) {
    Show s = show(premiere);
    if (s == null || off(cue, 0, 7)) return NO_SUCH;
    if (s.cues[cue] == null) return NOT_POSSIBLE;
    for (int t = 1; t <= 50; t++) if (tryCue(s, cue, t)[0] == 0) return t;
    return NONE;
  }

  public int bestFeed(int premiere, int dimmer) {
    Show s = show(premiere);
    if (s == null || off(dimmer, 0, 11)) return NO_SUCH;
    int[] top = new int[3];
    for (int f = 0; f < 3; f++) {
      Show other = s.copy();
      other.dimmers.get(dimmer).phase = f;
      for (int g = 0; g < 3; g++) top[f] = Math.max(top[f], worstOfPhase(other, g));
    }
    return top[0] <= top[1] && top[0] <= top[2] ? 0 : top[1] <= top[2] ? 1 : 2;
  }

  public int ifDays(int premiere, int first, int last) {
    if (show(premiere) == null) return NO_SUCH;
    if (off(first, 0, 6) || off(last, first, 6)) return BAD_VALUE;
    World kept = world;
    world = kept.copy();
    show(premiere).first = first;
    show(premiere).last = last;
    int missing = sumOfHire(1);
    world = kept;
    return missing;
  }

  // ---- texts

  public int put(long characters) {
    String added = "";
    int at = 7;
    while (at >= 0 && (characters >>> 8 * at & 255) == 0) at--;
    if (at < 0) return BAD_VALUE;
    for (; at >= 0; at--) {
      int code = (int) (characters >>> 8 * at & 255);
      if (code < 33 || code > 126) return BAD_VALUE;
      added += (char) code;
    }
    if (pad.length() + added.length() > 60) return TOO_MANY;
    pad += added;
    return pad.length();
  }

  public int wipe() {
    int length = pad.length();
    pad = "";
    return length;
  }

  public int fault() {
    if (TEXT.matcher(pad).matches()) return NONE;
    for (int end = 1; end <= pad.length(); end++) {
      if (!canGoOn(pad.substring(0, end))) return end - 1;
    }
    return pad.length();
  }

  /** Whether the text is one, or can become one by what comes behind it. */
  private static boolean canGoOn(String begin) {
    Matcher m = TEXT.matcher(begin);
    return m.matches() || m.hitEnd();
  }

  // ---- undo, saving

  public int undo() {
    if (past.isEmpty()) return NOT_POSSIBLE;
    world = past.removeLast();
    return past.size();
  }

  private int allLamps() {
    return world.shows.stream().mapToInt(s -> s.rig.size()).sum();
  }

  public int save(int slot) {
    if (off(slot, 0, 1)) return BAD_VALUE;
    slots[slot] = world.copy();
    return allLamps();
  }

  public int restore(int slot) {
    if (off(slot, 0, 1)) return BAD_VALUE;
    if (slots[slot] == null) return NOT_POSSIBLE;
    change();
    world = slots[slot].copy();
    return allLamps();
  }
}
