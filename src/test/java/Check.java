import java.nio.charset.StandardCharsets;

/** What the tests share: they tell each answer that is not the one that is due. */
final class Check {
  private static int wrong = 0;
  private static int made = 0;

  private Check() {
  }

  static void due(String what, Object got, Object want) {
    made++;
    if (!got.equals(want)) {
      wrong++;
      System.out.println(what + ": answered " + got + ", due is " + want);
    }
  }

  static void end() {
    System.out.println(wrong == 0 ? "all " + made + " answers are as due" : wrong + " answers are not as due");
    if (wrong != 0) {
      System.exit(1);
    }
  }

  /** Puts a text of characters 0 to 255, eight bytes a call. */
  static boolean put(ErrorSlices slices, String text) {
    byte[] bytes = text.getBytes(StandardCharsets.ISO_8859_1);
    boolean all = true;
    for (int from = 0; from < bytes.length; from += 8) {
      int n = Math.min(8, bytes.length - from);
      long v = 0;
      for (int i = 0; i < n; i++) {
        v = v << 8 | bytes[from + i] & 255;
      }
      all &= slices.put(v, n);
    }
    return all;
  }

  /** A new object that has judged a text. */
  static ErrorSlices judged(String text, int want) {
    ErrorSlices slices = new ErrorSlices();
    due("put of " + text, put(slices, text), true);
    due("judge of " + text, slices.judge(), want);
    return slices;
  }

  static String written(ErrorSlices slices) {
    StringBuilder all = new StringBuilder();
    for (long word = slices.fetch(); word != 0; word = slices.fetch()) {
      int n = (int) (word >>> 56);
      for (int i = 0; i < n; i++) {
        all.append((char) (word >>> 48 - 8 * i & 255));
      }
    }
    return all.toString();
  }

  static void dueType(String text, String want) {
    ErrorSlices slices = judged(text, 2);
    due("place of " + text, slices.place(), -1);
    due("nodes in the slice of " + text, slices.count(2), 0);
    due("type of " + text, written(slices), want);
  }

  static void dueSlice(String text, String want) {
    ErrorSlices slices = judged(text, 1);
    due("place of " + text, slices.place(), -1);
    due("slice of " + text, written(slices), want);
  }

  static void dueFault(String text, int fault, int place) {
    ErrorSlices slices = judged(text, fault);
    due("place in " + text, slices.place(), place);
    due("nodes in the slice of " + text, slices.count(2), 0);
    due("variables of " + text, slices.count(3), 0);
    due("written for " + text, written(slices), "");
  }

  static void dueVariables(String text, int want) {
    due("variables of " + text, judged(text, 2).count(3), want);
  }

  /** 1+1+..+1 */
  static String ones(int n) {
    return "1" + "+1".repeat(n - 1);
  }

  /** Leaves in a tree of pairs that is no deeper than it must be. */
  static String pairs(String leaf, int n) {
    return n == 1 ? leaf : "(" + pairs(leaf, n / 2) + "," + pairs(leaf, n - n / 2) + ")";
  }
}
