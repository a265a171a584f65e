/** Counts the answers that are not the ones that are due; a test ends with end(). */
public final class Check {
  private static int wrong = 0;
  private static int asked = 0;

  private Check() {
  }

  public static void due(String call, long got, long want) {
    asked++;
    if (got == want) return;
    wrong++;
    if (wrong <= 40) System.out.println(call + " answered " + got + ", due is " + want);
  }

  public static void holds(String what, boolean holds) {
    due(what, holds ? 1 : 0, 1);
  }

  /** Puts a text on the pad, eight characters a call; returns what the last call answered. */
  public static int text(PhaseLights x, String text) {
    int answer = 0;
    for (int i = 0; i < text.length(); i += 8) {
      answer = x.put(packed(text.substring(i, Math.min(i + 8, text.length()))));
    }
    return answer;
  }

  public static long packed(String characters) {
    long number = 0;
    for (char c : characters.toCharArray()) number = number << 8 | c;
    return number;
  }

  public static void end() {
    System.out.println(asked + " answers, " + wrong + " not as due");
    if (wrong != 0) System.exit(1);
  }
}
