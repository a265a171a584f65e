import com.sun.management.ThreadMXBean;
import java.io.IOException;
import java.lang.management.ManagementFactory;
import java.lang.reflect.Constructor;
import java.lang.reflect.Field;
import java.lang.reflect.InvocationTargetException;
import java.lang.reflect.Method;
import java.lang.reflect.Modifier;
import java.nio.charset.StandardCharsets;
import java.nio.file.Files;
import java.nio.file.Path;
import java.util.Arrays;
import java.util.Set;
import java.util.TreeSet;
import java.util.regex.Matcher;
import java.util.regex.Pattern;

/** The face, what of ../shared/LANGUAGE.md a test can see, and that no call throws or makes objects. */
public final class RulesTest {
  private static final Path SOURCE = Path.of("src/main/java/PhaseLights.java");
  private static final String[] FACE = {
    "set(int, int)", "type(int, int, int)", "days(int, int, int)", "hang(int, int, int)", "takeDown(int, int)",
    "patch(int, int, int)", "feed(int, int, int)", "spread(int)", "at(int, int, int)", "record(int, int, int)",
    "go(int, int)", "reset(int)", "tick(int)", "carryOut(int)", "lamp(int, int, int)", "dimmer(int, int, int)",
    "phase(int, int, int)", "cue(int, int, int)", "inCue(int, int, int)", "of(int, int)", "hire(int, int, int)",
    "count(int)", "ifGo(int, int, int)", "safeTicks(int, int)", "bestFeed(int, int)", "ifDays(int, int, int)",
    "put(long)", "wipe()", "fault()", "undo()", "save(int)", "restore(int)"
  };
  private static final Set<String> CONSTANTS = new TreeSet<>(Arrays.asList(
      "NO_SUCH", "BAD_VALUE", "BAD_TEXT", "TOO_MANY", "NOT_POSSIBLE", "NONE", "CAP", "LIMIT", "HOLD"));
  private static final String[] FORBIDDEN = {
    "throw", "throws", "try", "catch", "synchronized", "assert", "import", "package", "protected", "toString",
    "hashCode", "\\w+Exact", "System\\.(?!arraycopy)\\w+", "Thread", "Object",
    "MAX_VALUE", "MIN_VALUE"
  };
  private static final int[] VALUES = {
    Integer.MIN_VALUE, -100, -7, -6, -5, -1, 0, 1, 2, 3, 5, 6, 7, 8, 11, 12, 50, 100, 500, 2000, Integer.MAX_VALUE
  };

  private RulesTest() {
  }

  public static void main(String[] args) throws Exception {
    face();
    classesInside();
    words();
    noCallThrows();
    noCallMakesObjects();
    Check.end();
  }

  private static void face() {
    Set<String> found = new TreeSet<>();
    Set<String> privates = new TreeSet<>();
    Set<String> names = new TreeSet<>();
    for (Method m : PhaseLights.class.getDeclaredMethods()) {
      if (Modifier.isPrivate(m.getModifiers())) {
        privates.add(m.getName());
        continue;
      }
      names.add(m.getName());
      String parameters = Arrays.toString(m.getParameterTypes()).replace("[", "(").replace("]", ")");
      found.add(m.getName() + parameters);
      Check.holds(m + " is public and answers an int",
          Modifier.isPublic(m.getModifiers()) && m.getReturnType() == int.class);
    }
    Check.holds("the methods are those of the face: " + found, found.equals(new TreeSet<>(Arrays.asList(FACE))));
    privates.retainAll(names);
    Check.holds("no private method bears the name of a public one: " + privates, privates.isEmpty());
    Set<String> constants = new TreeSet<>();
    for (Field f : PhaseLights.class.getDeclaredFields()) {
      if (!Modifier.isPrivate(f.getModifiers())) constants.add(f.getName());
      if (Modifier.isStatic(f.getModifiers())) Check.holds(f + " is final", Modifier.isFinal(f.getModifiers()));
    }
    Check.holds("the constants are those of the face: " + constants, constants.equals(CONSTANTS));
    Check.holds("the class is public and final", Modifier.isFinal(PhaseLights.class.getModifiers())
        && Modifier.isPublic(PhaseLights.class.getModifiers()));
    Constructor<?>[] constructors = PhaseLights.class.getDeclaredConstructors();
    Check.holds("there is one public constructor", constructors.length == 1
        && Modifier.isPublic(constructors[0].getModifiers()) && constructors[0].getParameterCount() == 0);
  }

  private static void classesInside() {
    Class<?>[] inside = PhaseLights.class.getDeclaredClasses();
    Check.holds("there are at most twelve classes", inside.length + 1 <= 12);
    for (Class<?> c : inside) {
      Check.holds(c + " is static", Modifier.isStatic(c.getModifiers()));
      Check.holds(c + " is not public", !Modifier.isPublic(c.getModifiers()));
      Check.holds(c + " has at most twenty fields", c.getDeclaredFields().length <= 20);
    }
    for (Class<?> c : inside) {
      for (Method m : c.getDeclaredMethods()) {
        Check.holds(m + " has at most seven parameters", m.getParameterCount() <= 7);
      }
    }
  }

  private static void words() throws IOException {
    String source = Files.readString(SOURCE, StandardCharsets.UTF_8);
    for (char c : source.toCharArray()) {
      if (c > 126) Check.holds("the source holds the sign " + (int) c, false);
    }
    String code = source.replaceAll("(?s)/\\*.*?\\*/", " ").replaceAll("//[^\n]*", " ").replaceAll("'[^']+'", "' '");
    for (String word : FORBIDDEN) {
      Matcher m = Pattern.compile("\\b" + word + "\\b").matcher(code);
      Check.holds("the source does not say " + word, !m.find());
    }
    Check.holds("the source has no lambda", !code.contains("->"));
    Check.holds("the source has no method reference", !code.contains("::"));
  }

  /** Every method with every mix of values, on an object that is new, one with a show, and one that is full. */
  private static void noCallThrows() throws Exception {
    for (int kind = 0; kind < 3; kind++) {
      for (Method m : PhaseLights.class.getDeclaredMethods()) {
        if (!Modifier.isPublic(m.getModifiers())) continue;
        PhaseLights x = show(kind);
        Object[] arguments = new Object[m.getParameterCount()];
        callWithAll(x, m, arguments, 0);
      }
    }
  }

  private static void callWithAll(PhaseLights x, Method m, Object[] arguments, int place) throws Exception {
    if (place == arguments.length) {
      try {
        m.invoke(x, arguments);
      } catch (InvocationTargetException e) {
        Check.holds(m.getName() + Arrays.toString(arguments) + " does not throw " + e.getCause(), false);
      }
      return;
    }
    for (int value : VALUES) {
      boolean isLong = m.getParameterTypes()[place] == long.class;
      arguments[place] = isLong ? (Object) (value * 0x0101010101L) : (Object) value;
      callWithAll(x, m, arguments, place + 1);
    }
  }

  private static PhaseLights show(int kind) {
    PhaseLights x = new PhaseLights();
    for (int i = 0; i < (kind == 0 ? 0 : kind == 1 ? 5 : 12); i++) {
      x.type(2000 - 100 * i, i % 20, i);
      x.hang(0, i % 6, i);
      x.hang(2, i % 6, PhaseLights.NONE);
      x.at(0, i, 100 - i);
      x.record(0, i % 8, 1 + i);
    }
    if (kind == 2) {
      x.go(0, 0);
      x.tick(10);
      x.save(0);
      Check.text(x, "0>11@100;r1/50;g1;x;0>11@100;r1/50;g1;x;0>11@100;r1/50;g1;x");
    }
    return x;
  }

  private static void noCallMakesObjects() {
    ThreadMXBean bean = (ThreadMXBean) ManagementFactory.getThreadMXBean();
    long thread = Thread.currentThread().getId();
    PhaseLights x = show(2);
    long orders = Check.packed("0>11@50");
    callAll(x, orders);
    bean.getThreadAllocatedBytes(thread);
    long before = bean.getThreadAllocatedBytes(thread);
    for (int i = 0; i < 100; i++) callAll(x, orders);
    long bytes = bean.getThreadAllocatedBytes(thread) - before;
    Check.holds("3,200 calls make nothing: " + bytes + " bytes", bytes < 4096);
  }

  private static void callAll(PhaseLights x, long orders) {
    x.set(0, 3000);
    x.type(100, 1, 1);
    x.days(0, 1, 2);
    x.takeDown(0, 0);
    x.hang(0, 0, 3);
    x.patch(0, 0, 4);
    x.feed(0, 3, 1);
    x.spread(0);
    x.at(0, 0, 50);
    x.record(0, 0, 5);
    x.go(0, 0);
    x.reset(0);
    x.tick(3);
    x.wipe();
    x.put(orders);
    x.fault();
    x.carryOut(0);
    for (int what = 0; what < 9; what++) {
      x.lamp(0, 0, what);
      x.dimmer(0, 0, what);
      x.phase(0, 0, what);
      x.cue(0, 0, what);
      x.of(0, what);
      x.hire(0, 0, what);
      x.count(what);
      x.ifGo(0, 0, what);
    }
    x.inCue(0, 0, 0);
    x.safeTicks(0, 0);
    x.bestFeed(0, 0);
    x.ifDays(0, 0, 0);
    x.save(1);
    x.restore(1);
    x.undo();
  }
}
