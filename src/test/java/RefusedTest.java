/** A call that is refused changes nothing: an object with such calls in between answers as one without. */
public final class RefusedTest {
  private static final String[] TEXTS = {"fn x=>fn y=>(x,y)", "let x=1+true in x(2)", "(1,2,3)", "fn x=>(x,y)",
      Check.overRoom(), "", " \n", "not(1)"};

  public static void main(String[] args) {
    inEveryState();
    whenFull();
    manyInARow();
    Check.end();
  }

  private static void refused(ErrorSlices x) {
    Check.due("put of 0", x.put(0x3131313131313131L, 0), false);
    Check.due("put of 9", x.put(-1L, 9), false);
    Check.due("put of the least", x.put(0x29, Integer.MIN_VALUE), false);
    Check.due("put of the greatest", x.put(0x29, Integer.MAX_VALUE), false);
    Check.due("isIn(-1)", x.isIn(-1), false);
    Check.due("isIn(100)", x.isIn(100), false);
    Check.due("count(5)", x.count(5), -1);
    Check.due("count(-1)", x.count(-1), -1);
  }

  private static void dueSame(String when, ErrorSlices x, ErrorSlices y) {
    Check.due("place " + when, x.place(), y.place());
    for (int what = 0; what <= 4; what++) {
      Check.due("count(" + what + ") " + when, x.count(what), y.count(what));
    }
    for (int k = 0; k <= 5; k++) {
      Check.due("isIn(" + k + ") " + when, x.isIn(k), y.isIn(k));
    }
  }

  private static void inEveryState() {
    for (String first : TEXTS) {
      for (String second : TEXTS) {
        ErrorSlices x = new ErrorSlices();
        ErrorSlices y = new ErrorSlices();
        refused(x);
        dueSame("at first", x, y);
        judgeBoth(x, y, first);
        refused(x);
        dueSame("of " + first, x, y);
        Check.due("fetch of " + first, x.fetch(), y.fetch());
        refused(x);
        dueSame("of " + first + " behind a fetch", x, y);
        judgeBoth(x, y, second);
        refused(x);
        dueSame("of " + second, x, y);
        Check.due("written for " + second, Check.written(x), Check.written(y));
        refused(x);
        dueSame("of " + second + " at the end", x, y);
      }
    }
  }

  private static void judgeBoth(ErrorSlices x, ErrorSlices y, String text) {
    int half = text.length() / 2;
    Check.put(x, text.substring(0, half));
    Check.put(y, text.substring(0, half));
    refused(x);
    Check.put(x, text.substring(half));
    Check.put(y, text.substring(half));
    refused(x);
    Check.due("count(0) of " + text, x.count(0), text.length());
    Check.due("judge of " + text, x.judge(), y.judge());
  }

  private static void whenFull() {
    ErrorSlices x = Check.judged("1+true", 1);
    Check.put(x, "1+true" + " ".repeat(491));
    Check.due("count(0)", x.count(0), 497);
    for (int n = 4; n <= 8; n++) {
      Check.due("put of " + n, x.put(0x2929292929292929L, n), false);
    }
    refused(x);
    Check.due("count(0)", x.count(0), 497);
    Check.due("count(1)", x.count(1), 3);
    Check.due("count(2)", x.count(2), 2);
    Check.due("count(4)", x.count(4), 9);
    Check.due("isIn(2)", x.isIn(2), true);
    Check.due("put of 3", x.put(0x202029, 3), true);
    Check.due("put of 1", x.put(0x20, 1), false);
    Check.due("judge", x.judge(), -1);
    Check.due("place", x.place(), 499);
  }

  private static void manyInARow() {
    ErrorSlices x = new ErrorSlices();
    Check.put(x, "1+1");
    for (int i = 0; i < 60; i++) {
      refused(x);
    }
    Check.due("count(0)", x.count(0), 3);
    Check.due("judge", x.judge(), 2);
    Check.due("written", Check.written(x), "int");
  }
}
