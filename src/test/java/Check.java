import java.nio.charset.StandardCharsets;

/** What the tests share: they tell each answer that is not the one that is due. */
final class Check {
  /** Nothing is promised of an object after so many calls. */
  static final int CALLS = 512;

  private static int wrong = 0;
  private static int made = 0;

  private Check() {
  }

  static void due(String what, Object got, Object want) {
    made++;
    if (!got.equals(want)) {
      wrong++;
      System.out.println(what + ": answered " + got + ", due is " + want);
    }
  }

  static void end() {
    System.out.println(wrong == 0 ? "all " + made + " answers are as due" : wrong + " answers are not as due");
    if (wrong != 0) {
      System.exit(1);
    }
  }

  /** Puts a text of characters 0 to 255, eight bytes a call. */
  static boolean put(ErrorSlices slices, String text) {
    byte[] bytes = text.getBytes(StandardCharsets.ISO_8859_1);
    boolean all = true;
    for (int from = 0; from < bytes.length; from += 8) {
      int n = Math.min(8, bytes.length - from);
      long v = 0;
      for (int i = 0; i < n; i++) {
        v = v << 8 | bytes[from + i] & 255;
      }
      all &= slices.put(v, n);
    }
    return all;
  }

  /** How many calls it takes to put a text. */
  static int puts(String text) {
    return (text.length() + 7) / 8;
  }

  static int judge(ErrorSlices slices, String text) {
    due("put of " + text, put(slices, text), true);
    return slices.judge();
  }

  /** A new object that has judged a text. */
  static ErrorSlices judged(String text, int want) {
    ErrorSlices slices = new ErrorSlices();
    due("judge of " + text, judge(slices, text), want);
    return slices;
  }

  static String written(ErrorSlices slices) {
    return written(slices, CALLS);
  }

  /** What is written, as far as so many calls of fetch tell it. */
  static String written(ErrorSlices slices, int calls) {
    StringBuilder all = new StringBuilder();
    long word = 1;
    for (int call = 0; call < calls && word != 0; call++) {
      word = slices.fetch();
      int n = (int) (word >>> 56);
      for (int i = 0; i < n; i++) {
        all.append((char) (word >>> 48 - 8 * i & 255));
      }
    }
    return all.toString();
  }

  static void dueType(String text, String want) {
    ErrorSlices slices = judged(text, 2);
    due("place of " + text, slices.place(), -1);
    due("nodes in the slice of " + text, slices.count(2), 0);
    due("bytes written for " + text, slices.count(4), want.length());
    due("type of " + text, written(slices), want);
  }

  static void dueSlice(String text, String want) {
    ErrorSlices slices = judged(text, 1);
    due("place of " + text, slices.place(), -1);
    due("bytes written for " + text, slices.count(4), want.length());
    due("slice of " + text, written(slices), want);
  }

  /** The slice of a text, node by node: 1 is in it, 0 is not. */
  static void dueNodes(String text, String want) {
    ErrorSlices slices = judged(text, 1);
    StringBuilder got = new StringBuilder();
    for (int k = 0; k < slices.count(1); k++) {
      got.append(slices.isIn(k) ? '1' : '0');
    }
    due("nodes of the slice of " + text, got.toString(), want);
    due("nodes in the slice of " + text, slices.count(2), want.replace("0", "").length());
  }

  static void dueFault(String text, int fault, int place) {
    ErrorSlices slices = judged(text, fault);
    due("place in " + text, slices.place(), place);
    due("nodes in the slice of " + text, slices.count(2), 0);
    due("variables of " + text, slices.count(3), 0);
    due("bytes written for " + text, slices.count(4), 0);
    due("fetch for " + text, slices.fetch(), 0L);
  }

  static void dueSyntax(String text, int place) {
    dueFault(text, -1, place);
  }

  static void dueVariables(String text, int want) {
    due("variables of " + text, judged(text, 2).count(3), want);
  }

  /** 1+1+..+1, which has 2n-1 nodes. */
  static String ones(int n) {
    return "1" + "+1".repeat(n - 1);
  }

  /** An exp of so many nodes which may stand wherever an atom may. */
  static String nodes(int n) {
    return n % 2 == 1 ? "(" + ones((n + 1) / 2) + ")" : "(fn x=>" + ones(n / 2) + ")";
  }

  /** Leaves in a tree of pairs that is no deeper than it must be. */
  static String pairs(String leaf, int n) {
    return n == 1 ? leaf : "(" + pairs(leaf, n / 2) + "," + pairs(leaf, n - n / 2) + ")";
  }

  /** Two lets, the second with p names of the first, and q names of the second in the last exp. */
  static String twoLets(String exp, int p, int q) {
    return "let a=" + exp + " in let b=a" + "+a".repeat(p - 1) + " in b" + "+b".repeat(q - 1);
  }

  /** A text of exactly 2000 variables that has a type. */
  static String fullRoom() {
    return twoLets("if true then " + ones(12) + " else " + ones(12), 13, 2);
  }

  /** A text of 2001 variables. */
  static String overRoom() {
    return twoLets("if true then " + ones(19) + " else " + ones(20), 6, 3);
  }
}
