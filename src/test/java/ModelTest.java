import java.lang.reflect.Method;
import java.lang.reflect.Modifier;
import java.util.ArrayList;
import java.util.HashMap;
import java.util.List;
import java.util.Map;
import java.util.Random;

/** Runs of calls, made from seeds, on the program and on the Model: each answer has to be the same. */
public final class ModelTest {
  private static final int RUNS = 4000;
  /** What later calls on an object answer is free. */
  private static final int MOST_CALLS = 512;
  private static final int NONE = PhaseLights.NONE;
  private static final long[] EDGES = {
    Integer.MIN_VALUE, -1000, -7, -6, -5, -2, -1, 0, 1, 2, 3, 4, 5, 6, 7, 8, 9, 11, 12, 20, 31, 32, 33, 50, 51,
    100, 101, 500, 2000, 6001, 20001, 65536, Integer.MAX_VALUE
  };
  private static final String[] CHANGES = {
    "set", "type", "days", "hang", "hang", "hang", "takeDown", "patch", "patch", "feed", "spread",
    "at", "at", "at", "record", "record", "go", "go", "go", "reset", "tick", "tick", "tick", "tick", "carryOut",
    "undo", "save", "restore"
  };
  private static final String[] LOOKS = {
    "lamp", "lamp", "dimmer", "dimmer", "phase", "phase", "cue", "inCue", "of", "of", "hire", "count", "ifGo",
    "ifGo", "safeTicks", "bestFeed", "ifDays", "fault"
  };

  private static final Map<String, Method> THEIRS = new HashMap<>();
  private static final Map<String, Method> OURS = new HashMap<>();

  private final PhaseLights x = new PhaseLights();
  private final Model model = new Model();
  private final List<String> log = new ArrayList<>();
  private final Random random;
  private final int wild;
  private final int home;
  private boolean good = true;

  private ModelTest(long seed) {
    random = new Random(seed);
    wild = new int[] {0, 3, 12}[random.nextInt(3)];
    home = random.nextInt(3);
  }

  public static void main(String[] args) throws Exception {
    int bad = 0;
    for (int seed = 0; seed < RUNS && bad < 3; seed++) {
      if (!new ModelTest(seed).run()) {
        bad++;
        System.out.println("(seed " + seed + ")");
      }
    }
    System.out.println(RUNS + " runs, " + bad + " with a wrong answer");
    if (bad != 0) System.exit(1);
  }

  private boolean run() throws Exception {
    begin();
    int changing = random.nextInt(3) == 0 ? MOST_CALLS : 130;
    while (good && log.size() < changing) step();
    if (good) lookAtAll();
    return good;
  }

  /** A rig that is heavy enough for its settings, so that something trips. */
  private void begin() throws Exception {
    if (random.nextInt(8) == 0) return;
    call("set", 0, 500 + random.nextInt(3000));
    call("set", 1, 1000 + random.nextInt(6000));
    call("set", 2, 1 + random.nextInt(random.nextBoolean() ? 4 : 20));
    for (int t = random.nextInt(4); t >= 0; t--) call("type", watts(), random.nextInt(8), random.nextInt(51));
    for (int l = random.nextInt(14); l >= 0; l--) call("hang", home, 0, dimmerOrNone());
  }

  private void step() throws Exception {
    int kind = random.nextInt(20);
    if (kind < 10) callByName(CHANGES[random.nextInt(CHANGES.length)]);
    else if (kind < 18) callByName(LOOKS[random.nextInt(LOOKS.length)]);
    else texts();
  }

  /** As far as there are calls left: at home first. */
  private void lookAtAll() throws Exception {
    for (int what = -1; what <= 9; what++) call("count", what);
    lookAt(home);
    for (int t = 0; t < 6; t++) for (int d = 0; d < 7; d++) for (int w = 0; w <= 3; w++) call("hire", t, d, w);
  }

  private void lookAt(int p) throws Exception {
    for (int what = -1; what <= 9; what++) call("of", p, what);
    for (int i = 0; i < 8; i++) call("safeTicks", p, i);
    for (int i = 0; i < 12; i++) call("bestFeed", p, i);
    for (int i = 0; i < 12; i++) for (int what = 0; what <= 5; what++) call("lamp", p, i, what);
    for (int i = 0; i < 12; i++) for (int what = 0; what <= 6; what++) call("dimmer", p, i, what);
    for (int i = 0; i < 3; i++) for (int what = 0; what <= 5; what++) call("phase", p, i, what);
    for (int i = 0; i < 8; i++) for (int what = 0; what <= 3; what++) call("cue", p, i, what);
    for (int i = 0; i < 8; i++) for (int what = 0; what <= 4; what++) call("ifGo", p, i, what);
    for (int i = 0; i < 8; i++) for (int l = 0; l < 12; l++) call("inCue", p, i, l);
  }

  private void callByName(String name) throws Exception {
    int what = random.nextInt(10);
    switch (name) {
      case "set": call(name, random.nextInt(3), setting()); break;
      case "type": call(name, watts(), random.nextInt(21), random.nextInt(51)); break;
      case "days":
      case "ifDays": call(name, premiere(), random.nextInt(7), random.nextInt(7)); break;
      case "hang": call(name, premiere(), random.nextInt(3), dimmerOrNone()); break;
      case "patch": call(name, premiere(), random.nextInt(8), dimmerOrNone()); break;
      case "feed": call(name, premiere(), dimmerOrNone(), random.nextInt(3)); break;
      case "at": call(name, premiere(), random.nextInt(12), level()); break;
      case "record": call(name, premiere(), random.nextInt(4), ticks()); break;
      case "go":
      case "safeTicks": call(name, premiere(), random.nextInt(4)); break;
      case "tick": call(name, random.nextInt(10) == 0 ? 1 + random.nextInt(100) : 1 + random.nextInt(6)); break;
      case "takeDown": if (random.nextInt(3) == 0) call(name, premiere(), random.nextInt(12)); break;
      case "carryOut":
      case "spread":
      case "reset": call(name, premiere()); break;
      case "lamp": call(name, premiere(), random.nextInt(12), what); break;
      case "dimmer": call(name, premiere(), random.nextInt(12), what); break;
      case "phase": call(name, premiere(), random.nextInt(3), what); break;
      case "cue": call(name, premiere(), random.nextInt(4), what % 4); break;
      case "ifGo": call(name, premiere(), random.nextInt(4), what % 5); break;
      case "inCue": call(name, premiere(), random.nextInt(4), random.nextInt(12)); break;
      case "of": call(name, premiere(), what); break;
      case "hire": call(name, random.nextInt(3), random.nextInt(7), what % 4); break;
      case "count": call(name, what); break;
      case "bestFeed": call(name, premiere(), random.nextInt(12)); break;
      case "save":
      case "restore": call(name, random.nextInt(2)); break;
      default: call(name);
    }
  }

  /** A text, now and then with a sign changed, that is put, judged and mostly carried out. */
  private void texts() throws Exception {
    if (random.nextInt(3) == 0) call("wipe");
    StringBuilder text = new StringBuilder();
    for (int n = random.nextInt(4); n >= 0; n--) text.append(text.length() == 0 ? "" : ";").append(order());
    if (random.nextInt(3) == 0 && text.length() > 0) {
      String signs = "0123456789@;+>/rgx!~";
      int place = random.nextInt(text.length());
      char sign = signs.charAt(random.nextInt(signs.length()));
      if (random.nextBoolean()) text.setCharAt(place, sign);
      else text.insert(place, sign);
    }
    if (random.nextInt(6) == 0) text.setLength(random.nextInt(text.length() + 1));
    for (int i = 0; i < text.length(); ) {
      int end = Math.min(text.length(), i + 1 + random.nextInt(8));
      call("put", Check.packed(text.substring(i, end)));
      i = end;
    }
    call("fault");
    if (random.nextInt(8) == 0) call("put", oddCharacters());
    if (random.nextInt(4) != 0) call("carryOut", premiere());
    if (random.nextInt(2) == 0) call("wipe");
  }

  private long oddCharacters() {
    switch (random.nextInt(5)) {
      case 0: return 0;
      case 1: return random.nextLong();
      case 2: return Check.packed("x" + (char) random.nextInt(256) + "x");
      case 3: return Check.packed("x") << 8 * random.nextInt(8);
      default: return random.nextInt(256);
    }
  }

  private String order() {
    switch (random.nextInt(6)) {
      case 0: return "x";
      case 1: return "g" + random.nextInt(random.nextInt(4) == 0 ? 8 : 3);
      case 2: return "r" + random.nextInt(4) + "/" + ticks();
      default:
        StringBuilder levels = new StringBuilder();
        for (int n = random.nextInt(3); n >= 0; n--) {
          levels.append(levels.length() == 0 ? "" : "+").append(random.nextInt(12));
          if (random.nextBoolean()) levels.append(">").append(random.nextInt(random.nextBoolean() ? 12 : 5));
        }
        return levels.append("@").append(level()).toString();
    }
  }

  private int premiere() {
    return random.nextInt(5) == 0 ? random.nextInt(3) : home;
  }

  private int dimmerOrNone() {
    return random.nextInt(9) == 0 ? NONE : random.nextInt(random.nextBoolean() ? 12 : 4);
  }

  private int watts() {
    return 100 + random.nextInt(random.nextBoolean() ? 500 : 1901);
  }

  private int setting() {
    switch (random.nextInt(3)) {
      case 0: return 1 + random.nextInt(6);
      case 1: return 500 + random.nextInt(2500);
      default: return 1000 + random.nextInt(5000);
    }
  }

  private int level() {
    return random.nextInt(3) == 0 ? 100 : random.nextInt(101);
  }

  private int ticks() {
    return random.nextInt(4) == 0 ? 1 + random.nextInt(50) : 1 + random.nextInt(6);
  }

  private void call(String name, long... given) throws Exception {
    if (!good || log.size() >= MOST_CALLS) return;
    Method theirs = find(THEIRS, PhaseLights.class, name);
    Method ours = find(OURS, Model.class, name);
    Object[] arguments = new Object[given.length];
    StringBuilder told = new StringBuilder(name).append('(');
    for (int i = 0; i < given.length; i++) {
      boolean isLong = theirs.getParameterTypes()[i] == long.class;
      long value = !isLong && random.nextInt(100) < wild ? EDGES[random.nextInt(EDGES.length)] : given[i];
      arguments[i] = isLong ? (Object) Long.valueOf(value) : (Object) Integer.valueOf((int) value);
      told.append(i == 0 ? "" : ", ").append(value);
    }
    int got = (Integer) theirs.invoke(x, arguments);
    int want = (Integer) ours.invoke(model, arguments);
    log.add(told.append(") = ").append(got).toString());
    if (got != want) tell(want);
  }

  private void tell(int want) {
    good = false;
    for (int i = Math.max(0, log.size() - 25); i < log.size(); i++) System.out.println("  " + log.get(i));
    System.out.println("  .. the model answered " + want + " (call " + log.size() + ")");
  }

  private static Method find(Map<String, Method> known, Class<?> of, String name) {
    if (known.isEmpty()) {
      for (Method m : of.getDeclaredMethods()) {
        if (Modifier.isPublic(m.getModifiers())) known.put(m.getName(), m);
      }
    }
    return known.get(name);
  }
}
