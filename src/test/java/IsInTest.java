/** Promise 5: the nodes of a slice, and all that are none. */
public final class IsInTest {
  private static final int[] NO_NODES =
      {-1, -2, -100, Integer.MIN_VALUE, 100, 101, 255, 256, 500, 2000, 1 << 16, Integer.MAX_VALUE};

  public static void main(String[] args) {
    lastNodeAndTheNext();
    hundredNodes();
    everyOtherNumber();
    noSlice();
    sliceOfTheLastText();
    asksChangeNothing();
    Check.end();
  }

  private static void lastNodeAndTheNext() {
    ErrorSlices last = Check.judged("1+true", 1);
    Check.due("isIn(0)", last.isIn(0), false);
    Check.due("isIn(1)", last.isIn(1), true);
    Check.due("isIn(2), the last", last.isIn(2), true);
    Check.due("isIn(3), behind it", last.isIn(3), false);
    Check.due("isIn(-1)", last.isIn(-1), false);
    ErrorSlices first = Check.judged("1(2)", 1);
    Check.due("isIn(-1)", first.isIn(-1), false);
    Check.due("isIn(0), the first", first.isIn(0), true);
    Check.due("isIn(1)", first.isIn(1), true);
    Check.due("isIn(2)", first.isIn(2), false);
    Check.due("isIn(3)", first.isIn(3), false);
  }

  private static void hundredNodes() {
    ErrorSlices full = Check.judged("fn x=>" + Check.ones(49) + "+true", 1);
    for (int k = -1; k <= 101; k++) {
      Check.due("isIn(" + k + ")", full.isIn(k), k == 98 || k == 99);
    }
    ErrorSlices less = Check.judged(Check.ones(49) + "+true", 1);
    for (int k = -1; k <= 101; k++) {
      Check.due("isIn(" + k + ")", less.isIn(k), k == 97 || k == 98);
    }
  }

  private static void everyOtherNumber() {
    String[] texts = {"1(2)", "fn x=>" + Check.ones(49) + "+true", "fn x=>x(x)"};
    for (String text : texts) {
      ErrorSlices x = Check.judged(text, 1);
      for (int k : NO_NODES) {
        Check.due("isIn(" + k + ") of " + text, x.isIn(k), false);
      }
      for (int bit = 7; bit < 32; bit++) {
        Check.due("isIn(" + (1 << bit | 1) + ") of " + text, x.isIn(1 << bit | 1), false);
      }
    }
  }

  private static void noSlice() {
    String[] texts = {"fn x=>x", Check.ones(50), "1+", "", "(1,x+true)", Check.overRoom()};
    int[] answers = {2, 2, -1, -1, -2, -3};
    for (int i = 0; i < texts.length; i++) {
      // With a slice of every node ahead of it, so that nothing of that may show.
      ErrorSlices x = Check.judged("not(1)", 1);
      Check.due("isIn(0)", x.isIn(0) && x.isIn(1) && x.isIn(2), true);
      Check.due("judge of " + texts[i], Check.judge(x, texts[i]), answers[i]);
      for (int k = -1; k <= 101; k++) {
        Check.due("isIn(" + k + ") of " + texts[i], x.isIn(k), false);
      }
      for (int k : NO_NODES) {
        Check.due("isIn(" + k + ") of " + texts[i], x.isIn(k), false);
      }
    }
  }

  private static void sliceOfTheLastText() {
    ErrorSlices x = Check.judged("1(2)", 1);
    Check.put(x, "1+true");
    Check.due("isIn(0) before it is judged", x.isIn(0), true);
    Check.due("isIn(2) before it is judged", x.isIn(2), false);
    Check.due("judge", x.judge(), 1);
    Check.due("isIn(0)", x.isIn(0), false);
    Check.due("isIn(1)", x.isIn(1), true);
    Check.due("isIn(2)", x.isIn(2), true);
    Check.due("judge", Check.judge(x, "fn x=>" + Check.ones(49) + "+true"), 1);
    Check.due("judge", Check.judge(x, "1(2)"), 1);
    Check.due("isIn(98) of a longer one ahead", x.isIn(98), false);
  }

  private static void asksChangeNothing() {
    ErrorSlices x = Check.judged("1(2)", 1);
    for (int i = 0; i < 3; i++) {
      Check.due("isIn(0)", x.isIn(0), true);
      Check.due("isIn(2)", x.isIn(2), false);
      Check.due("isIn(-1)", x.isIn(-1), false);
    }
    Check.due("count(2)", x.count(2), 2);
    Check.due("written", Check.written(x), "1 ( .. )");
  }
}
