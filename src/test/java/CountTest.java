/** Promise 7: each count before and after each kind of answer, and every other number. */
public final class CountTest {
  private static final int[] OTHERS =
      {-1, 5, 6, 7, 8, -2, -5, 100, 256, 260, 1 << 16, Integer.MIN_VALUE, Integer.MIN_VALUE + 4, Integer.MAX_VALUE};

  public static void main(String[] args) {
    newObject();
    ofATextWithAType();
    ofATextWithASlice();
    ofFaults();
    bytesOfTheText();
    lastTextStaysUntilTheNext();
    nextTextCountsAlone();
    Check.end();
  }

  private static void dueCounts(String when, ErrorSlices x, int... due) {
    for (int what = 0; what < due.length; what++) {
      Check.due("count(" + what + ") " + when, x.count(what), due[what]);
    }
    for (int other : OTHERS) {
      Check.due("count(" + other + ") " + when, x.count(other), -1);
    }
    for (int what = 0; what < due.length; what++) {
      Check.due("count(" + what + ") once more " + when, x.count(what), due[what]);
    }
  }

  private static void dueCounts(String text, int answer, int... due) {
    ErrorSlices x = new ErrorSlices();
    Check.put(x, text);
    dueCounts("before judge of " + text, x, text.length(), 0, 0, 0, 0);
    Check.due("judge of " + text, x.judge(), answer);
    dueCounts("of " + text, x, due);
  }

  private static void newObject() {
    dueCounts("of a new object", new ErrorSlices(), 0, 0, 0, 0, 0);
  }

  private static void ofATextWithAType() {
    dueCounts("1", 2, 0, 1, 0, 1, 3);
    dueCounts("((true))", 2, 0, 1, 0, 1, 4);
    dueCounts("fn x=>x", 2, 0, 2, 0, 3, 6);
    dueCounts("let id=fn x=>x in (id(1),id(true))", 2, 0, 10, 0, 17, 11);
    dueCounts("fn x=>" + Check.ones(50), 2, 0, 100, 0, 101, 8);
    dueCounts(Check.fullRoom(), 2, 0, 78, 0, 2000, 3);
  }

  private static void ofATextWithASlice() {
    dueCounts("1(2)", 1, 0, 3, 2, 3, 8);
    dueCounts("not(1)", 1, 0, 3, 3, 3, 9);
    dueCounts("let f=1+true in 2", 1, 0, 5, 2, 5, 12);
    dueCounts("let x=1 in x(2)", 1, 0, 5, 3, 6, 16);
    dueCounts("fn x=>" + Check.ones(49) + "+true", 1, 0, 100, 2, 101, 9);
  }

  private static void ofFaults() {
    dueCounts("", -1, 0, 0, 0, 0, 0);
    dueCounts("1+true)", -1, 0, 0, 0, 0, 0);
    dueCounts("let id=fn x=>x in (id(1),id(true)", -1, 0, 0, 0, 0, 0);
    dueCounts("fn x=>fn y=>" + Check.ones(50), -1, 0, 0, 0, 0, 0);
    dueCounts("(".repeat(20) + "1" + ")".repeat(20), -1, 0, 0, 0, 0, 0);
    dueCounts("x", -2, 0, 1, 0, 0, 0);
    dueCounts("let id=fn x=>x in (id(1),ix(true))", -2, 0, 10, 0, 0, 0);
    dueCounts("fn x=>" + Check.ones(49) + "+y", -2, 0, 100, 0, 0, 0);
    dueCounts(Check.overRoom(), -3, 0, 96, 0, 0, 0);
  }

  private static void bytesOfTheText() {
    ErrorSlices x = new ErrorSlices();
    int length = 0;
    for (int i = 0; length + i % 8 + 1 <= 500; i++) {
      Check.due("put", x.put(0x2020202020202020L, i % 8 + 1), true);
      length += i % 8 + 1;
      Check.due("count(0)", x.count(0), length);
    }
    Check.due("put of what is left", Check.put(x, " ".repeat(500 - length)), true);
    Check.due("count(0) when full", x.count(0), 500);
    Check.due("put when full", x.put(0x20, 1), false);
    Check.due("count(0) when full", x.count(0), 500);
    Check.due("judge", x.judge(), -1);
    Check.due("count(0) after judge", x.count(0), 0);
  }

  private static void lastTextStaysUntilTheNext() {
    ErrorSlices x = Check.judged("let f=1+true in 2", 1);
    dueCounts("of the last text", x, 0, 5, 2, 5, 12);
    Check.put(x, "fn x=>");
    dueCounts("behind a put", x, 6, 5, 2, 5, 12);
    x.fetch();
    dueCounts("behind a fetch", x, 6, 5, 2, 5, 5);
    x.put(1, 0);
    dueCounts("behind a put that is refused", x, 6, 5, 2, 5, 5);
    x.fetch();
    dueCounts("behind the last fetch", x, 6, 5, 2, 5, 0);
    Check.put(x, "y");
    Check.due("judge", x.judge(), -2);
    dueCounts("of the next text", x, 0, 2, 0, 0, 0);
  }

  private static void nextTextCountsAlone() {
    String[] texts = {"fn x=>x", "not(1)", "1+", "(1,x)", Check.overRoom(), ""};
    int[][] due = {{0, 2, 0, 3, 6}, {0, 3, 3, 3, 9}, {0, 0, 0, 0, 0}, {0, 3, 0, 0, 0}, {0, 96, 0, 0, 0},
        {0, 0, 0, 0, 0}};
    for (int i = 0; i < texts.length; i++) {
      for (int j = 0; j < texts.length; j++) {
        ErrorSlices x = new ErrorSlices();
        Check.judge(x, texts[i]);
        Check.judge(x, texts[j]);
        dueCounts("of " + texts[j] + " behind " + texts[i], x, due[j]);
      }
    }
  }
}
