/** Promise 2: which bytes put takes, and when it takes none. */
public final class PutTest {
  private static final long ONES = 0x3131313131313131L;
  private static final int[] WRONG =
      {0, 9, -1, 10, 16, 64, 257, 500, 1 << 30, -8, -500, Integer.MIN_VALUE + 1, Integer.MIN_VALUE, Integer.MAX_VALUE};

  public static void main(String[] args) {
    lowestBytesHighestFirst();
    bytesAboveDoNotCount();
    negativeNumbers();
    bytesComeBehind();
    everyByteIsTaken();
    wrongLengths();
    exactlyFiveHundred();
    moreThanFiveHundred();
    refusedAndThenTaken();
    fullAgainAfterJudge();
    Check.end();
  }

  private static long digits(int n) {
    return 0x3132333435363738L >>> 8 * (8 - n);
  }

  private static void dueNumber(String what, long v, int n) {
    ErrorSlices x = new ErrorSlices();
    Check.due("put of " + what, x.put(v, n), true);
    Check.due("count(0) of " + what, x.count(0), n);
    Check.due("put of (1)", x.put(0x283129L, 3), true);
    Check.due("count(0)", x.count(0), n + 3);
    Check.due("judge of " + what, x.judge(), 1);
    Check.due("written for " + what, Check.written(x), "12345678".substring(0, n) + " ( .. )");
  }

  private static void lowestBytesHighestFirst() {
    for (int n = 1; n <= 8; n++) {
      dueNumber(n + " bytes", digits(n), n);
    }
  }

  private static void bytesAboveDoNotCount() {
    for (int n = 1; n < 8; n++) {
      long above = -1L << 8 * n;
      dueNumber(n + " bytes below letters", digits(n) | 0x7878787878787878L & above, n);
      dueNumber(n + " bytes below the highest", digits(n) | above, n);
      dueNumber(n + " bytes below one", digits(n) | Long.MIN_VALUE, n);
      dueNumber(n + " bytes below a next one", digits(n) | 1L << 8 * n, n);
    }
  }

  private static void negativeNumbers() {
    for (int n = 1; n <= 8; n++) {
      ErrorSlices x = new ErrorSlices();
      Check.due("put of -1", x.put(-1L, n), true);
      Check.due("count(0)", x.count(0), n);
      Check.due("judge", x.judge(), -1);
      Check.due("place", x.place(), 0);
    }
    // The highest of eight bytes is the sign's, and comes first.
    ErrorSlices x = new ErrorSlices();
    Check.due("put of 128 and ones", x.put(0x8031313131313131L, 8), true);
    Check.due("judge", x.judge(), -1);
    Check.due("place", x.place(), 0);
    Check.due("put of a blank and 255", x.put(0x20202020202020FFL, 8), true);
    Check.due("judge", x.judge(), -1);
    Check.due("place", x.place(), 7);
    Check.due("put of the least", x.put(Long.MIN_VALUE, 8), true);
    Check.due("judge", x.judge(), -1);
    Check.due("place", x.place(), 0);
    Check.due("put of the greatest", x.put(Long.MAX_VALUE, 8), true);
    Check.due("judge", x.judge(), -1);
    Check.due("place", x.place(), 0);
  }

  private static void bytesComeBehind() {
    ErrorSlices x = new ErrorSlices();
    Check.due("put", x.put(0x28, 1), true);
    Check.due("put", x.put(0x312B, 2), true);
    Check.due("put", x.put(0x74727565, 4), true);
    Check.due("put", x.put(0x29203C, 3), true);
    Check.due("put", x.put(0x20, 1), true);
    Check.due("put", x.put(0x666E31, 3), true);
    Check.due("count(0)", x.count(0), 14);
    Check.due("judge of (1+true) < fn1", x.judge(), -2);
    Check.due("place", x.place(), 11);
  }

  private static void everyByteIsTaken() {
    for (int b = 0; b < 256; b++) {
      ErrorSlices x = new ErrorSlices();
      Check.due("put of " + b, x.put(b, 1), true);
      Check.due("put of " + b + " twice", x.put(b << 8 | b, 2), true);
      Check.due("count(0)", x.count(0), 3);
    }
  }

  private static void wrongLengths() {
    for (int n : WRONG) {
      ErrorSlices empty = new ErrorSlices();
      Check.due("put of " + n + " bytes", empty.put(ONES, n), false);
      Check.due("count(0)", empty.count(0), 0);
      ErrorSlices x = new ErrorSlices();
      x.put(0x31, 1);
      Check.due("put of " + n + " bytes", x.put(ONES, n), false);
      Check.due("count(0)", x.count(0), 1);
      Check.due("judge", x.judge(), 2);
      ErrorSlices full = filled(500);
      Check.due("put of " + n + " bytes when full", full.put(ONES, n), false);
      Check.due("count(0) when full", full.count(0), 500);
    }
  }

  /** An object whose text is so many blanks. */
  private static ErrorSlices filled(int length) {
    ErrorSlices x = new ErrorSlices();
    Check.due("put of " + length + " blanks", Check.put(x, " ".repeat(length)), true);
    Check.due("count(0)", x.count(0), length);
    return x;
  }

  private static void exactlyFiveHundred() {
    for (int n = 1; n <= 8; n++) {
      ErrorSlices x = filled(500 - n);
      Check.due("put of the last " + n, x.put(digits(n), n), true);
      Check.due("count(0)", x.count(0), 500);
      Check.due("judge of 500 bytes", x.judge(), 2);
      Check.due("written", Check.written(x), "int");
      ErrorSlices y = filled(499 - n);
      Check.due("put of " + n, y.put(digits(n), n), true);
      Check.due("count(0)", y.count(0), 499);
      Check.due("put of one more", y.put('x', 1), true);
      Check.due("count(0)", y.count(0), 500);
    }
    Check.dueFault(" ".repeat(499) + "x", -2, 499);
    Check.dueSyntax(" ".repeat(499) + "$", 499);
    Check.dueSyntax(" ".repeat(500), 500);
    Check.dueSyntax(" ".repeat(499) + "(", 500);
    Check.dueSyntax(" ".repeat(490) + "1234567890", 490);
    Check.dueType("1" + " ".repeat(499), "int");
    Check.dueSlice("1" + " ".repeat(496) + "(1)", "1 ( .. )");
  }

  private static void moreThanFiveHundred() {
    for (int n = 1; n <= 8; n++) {
      for (int length = 501 - n; length <= 500; length++) {
        ErrorSlices x = filled(length);
        Check.due("put of " + n + " behind " + length, x.put(ONES, n), false);
        Check.due("count(0)", x.count(0), length);
        Check.due("judge", x.judge(), -1);
        Check.due("place", x.place(), length);
      }
    }
  }

  private static void refusedAndThenTaken() {
    ErrorSlices x = filled(496);
    Check.due("put of 8", x.put(ONES, 8), false);
    Check.due("put of 5", x.put(ONES, 5), false);
    Check.due("put of 3", x.put(0x312B31, 3), true);
    Check.due("put of 2", x.put(ONES, 2), false);
    Check.due("put of 0", x.put(ONES, 0), false);
    Check.due("put of 1", x.put(0x20, 1), true);
    Check.due("put of 1 when full", x.put(0x20, 1), false);
    Check.due("judge", x.judge(), 2);
    Check.due("written", Check.written(x), "int");
  }

  private static void fullAgainAfterJudge() {
    ErrorSlices x = filled(500);
    Check.due("put when full", x.put(ONES, 1), false);
    Check.due("judge", x.judge(), -1);
    Check.due("count(0)", x.count(0), 0);
    Check.due("put of 500 once more", Check.put(x, " ".repeat(499) + "1"), true);
    Check.due("put when full again", x.put(ONES, 1), false);
    Check.due("judge", x.judge(), 2);
    // Bytes of a longer text do not come back behind a shorter one.
    Check.due("judge of a shorter one", Check.judge(x, "  "), -1);
    Check.due("place", x.place(), 2);
  }
}
