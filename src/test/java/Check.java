/** Counts the answers that are not the ones that are due; a test ends with end(). */
public final class Check {
  private static int wrong = 0;
  private static int asked = 0;
  private static int sentences = 0;
  private static String sentence = "";

  private Check() {
  }

  /** The sentence of the document (where it stands, and its words) that the answers from here on test. */
  public static void sentence(String where, String words) {
    sentence = where + ": " + words;
    sentences++;
  }

  public static void due(String call, long got, long want) {
    asked++;
    if (got == want) return;
    fail(call + " answered " + got + ", due is " + want);
  }

  public static void same(String what, String got, String want) {
    asked++;
    if (got.equals(want)) return;
    fail(what + "\n    answered " + got + "\n    due is   " + want);
  }

  public static void holds(String what, boolean holds) {
    due(what, holds ? 1 : 0, 1);
  }

  private static void fail(String what) {
    wrong++;
    if (wrong > 40) return;
    if (!sentence.isEmpty()) System.out.println("[" + sentence + "]");
    System.out.println("  " + what);
  }

  /** Puts a text on the pad, eight characters a call; returns what the last call answered. */
  public static int text(PhaseLights x, String text) {
    int answer = 0;
    for (int i = 0; i < text.length(); i += 8) {
      answer = x.put(packed(text.substring(i, Math.min(i + 8, text.length()))));
    }
    return answer;
  }

  public static long packed(String characters) {
    long number = 0;
    for (char c : characters.toCharArray()) number = number << 8 | c;
    return number;
  }

  public static void end() {
    String of = sentences == 0 ? "" : sentences + " sentences, ";
    System.out.println(of + asked + " answers, " + wrong + " not as due");
    if (wrong != 0) System.exit(1);
  }
}
