/** Promises 1, 2, 4, 5, 6 and 7: what each call answers and what it leaves as it was. */
public final class CallsTest {
  public static void main(String[] args) {
    newObject();
    putTakesTheLowestBytes();
    putRefuses();
    putUpToTheLimit();
    judgeEmptiesTheText();
    lastTextStaysUntilTheNext();
    isInTellsTheSlice();
    fetchTakesSeven();
    fetchOfEveryLength();
    counts();
    objectsAreApart();
    Check.end();
  }

  private static void dueNothingJudged(String when, ErrorSlices x) {
    Check.due("place " + when, x.place(), -1);
    Check.due("isIn(0) " + when, x.isIn(0), false);
    Check.due("fetch " + when, x.fetch(), 0L);
    for (int what = 1; what <= 4; what++) {
      Check.due("count(" + what + ") " + when, x.count(what), 0);
    }
  }

  private static void newObject() {
    ErrorSlices x = new ErrorSlices();
    dueNothingJudged("of a new object", x);
    Check.due("count(0) of a new object", x.count(0), 0);
    Check.due("put", x.put('1', 1), true);
    dueNothingJudged("before the first judge", x);
    Check.due("judge after put", x.judge(), 2);
    Check.due("judge of no text", new ErrorSlices().judge(), -1);
  }

  private static void putTakesTheLowestBytes() {
    ErrorSlices x = new ErrorSlices();
    Check.due("put of 1 of 8", x.put(0x7878787878787874L, 1), true);
    Check.due("put of 3 of 8", x.put(0x7878787878727565L, 3), true);
    Check.due("count(0)", x.count(0), 4);
    Check.due("judge", x.judge(), 2);
    Check.due("written", Check.written(x), "bool");
    // Bytes above 127 are bytes like others, none of which begins a token.
    Check.due("put of high bytes", x.put(-1L, 8), true);
    Check.due("count(0)", x.count(0), 8);
    Check.due("judge of high bytes", x.judge(), -1);
    Check.due("place of high bytes", x.place(), 0);
    Check.due("put(1 and high)", x.put(0x31FFL, 2), true);
    Check.due("judge of 1 and high", x.judge(), -1);
    Check.due("place of 1 and high", x.place(), 1);
  }

  private static void putRefuses() {
    int[] lengths = {0, 9, -1, 10, 16, 64, 500, Integer.MAX_VALUE, Integer.MIN_VALUE};
    ErrorSlices x = new ErrorSlices();
    x.put('1', 1);
    for (int n : lengths) {
      Check.due("put of " + n, x.put(0x3131313131313131L, n), false);
      Check.due("count(0)", x.count(0), 1);
    }
    Check.due("judge", x.judge(), 2);
    Check.due("written", Check.written(x), "int");
  }

  private static void putUpToTheLimit() {
    ErrorSlices x = new ErrorSlices();
    for (int i = 0; i < 62; i++) {
      Check.due("put " + i, x.put(0x2020202020202020L, 8), true);
    }
    Check.due("count(0)", x.count(0), 496);
    Check.due("put of 5 more", x.put(0x3131313131L, 5), false);
    Check.due("put of 8 more", x.put(0x3131313131313131L, 8), false);
    Check.due("count(0) after what was refused", x.count(0), 496);
    Check.due("put of 4 more", x.put(0x20202031L, 4), true);
    Check.due("count(0)", x.count(0), 500);
    for (int n = 1; n <= 8; n++) {
      Check.due("put of " + n + " when full", x.put(0x3131313131313131L, n), false);
    }
    Check.due("count(0) when full", x.count(0), 500);
    Check.due("judge of 500 bytes", x.judge(), 2);
    Check.due("written", Check.written(x), "int");
    Check.due("put after judge", x.put(0x3131313131313131L, 8), true);
    String long500 = " ".repeat(499) + "x";
    Check.dueFault(long500, -2, 499);
    Check.dueFault(" ".repeat(500), -1, 500);
    Check.dueFault("1".repeat(9) + " ".repeat(490) + "+", -1, 500);
    Check.dueFault("(".repeat(500), -1, 20);
    Check.dueFault("=".repeat(500), -1, 0);
    Check.dueFault("a".repeat(500), -1, 0);
  }

  private static void judgeEmptiesTheText() {
    String[] texts = {"1", "1(1)", "(", "x", "\n"};
    ErrorSlices x = new ErrorSlices();
    for (String text : texts) {
      Check.put(x, text);
      Check.due("count(0) of " + text, x.count(0), text.length());
      x.judge();
      Check.due("count(0) after judge of " + text, x.count(0), 0);
      Check.due("judge again", x.judge(), -1);
      Check.due("place again", x.place(), 0);
    }
  }

  private static void lastTextStaysUntilTheNext() {
    ErrorSlices x = Check.judged("let f=1+true in 2", 1);
    Check.put(x, "fn x=>");
    x.put(1, 0);
    Check.due("count(0)", x.count(0), 6);
    Check.due("count(1)", x.count(1), 5);
    Check.due("count(2)", x.count(2), 2);
    Check.due("count(3)", x.count(3), 5);
    Check.due("count(4)", x.count(4), 12);
    Check.due("isIn(2)", x.isIn(2), true);
    Check.due("written", Check.written(x), ".. + true ..");
    Check.put(x, "y");
    Check.due("judge", x.judge(), -2);
    Check.due("place", x.place(), 6);
    Check.due("count(1)", x.count(1), 2);
    Check.put(x, "1");
    Check.due("place before the next judge", x.place(), 6);
    Check.due("judge", x.judge(), 2);
    Check.due("place without a fault", x.place(), -1);
    // What an earlier text left does not show in a later one.
    Check.put(x, "1+true");
    x.judge();
    Check.put(x, "1+1");
    x.judge();
    Check.due("isIn(1) without a slice", x.isIn(1), false);
    Check.due("count(2) without a slice", x.count(2), 0);
    Check.put(x, "1+true");
    x.judge();
    Check.put(x, "x+true");
    Check.due("judge", x.judge(), -2);
    Check.due("isIn(1) with a fault", x.isIn(1), false);
    Check.due("count(4) with a fault", x.count(4), 0);
    Check.put(x, "1+true");
    x.judge();
    Check.put(x, "1+");
    Check.due("judge", x.judge(), -1);
    for (int what = 0; what <= 4; what++) {
      Check.due("count(" + what + ") with fault 1", x.count(what), 0);
    }
  }

  private static void isInTellsTheSlice() {
    ErrorSlices x = Check.judged("if 1 then 2 else true", 1);
    boolean[] due = {true, false, true, true};
    for (int k = 0; k < due.length; k++) {
      Check.due("isIn(" + k + ")", x.isIn(k), due[k]);
    }
    int[] none = {4, 5, 99, 100, 101, 500, -1, -2, Integer.MAX_VALUE, Integer.MIN_VALUE};
    for (int k : none) {
      Check.due("isIn(" + k + ")", x.isIn(k), false);
    }
    ErrorSlices typed = Check.judged("if true then 2 else 3", 2);
    for (int k = -1; k < 5; k++) {
      Check.due("isIn(" + k + ") of a text with a type", typed.isIn(k), false);
    }
    ErrorSlices full = Check.judged("fn x=>" + Check.ones(49) + "+true", 1);
    Check.due("nodes", full.count(1), 100);
    Check.due("isIn(97)", full.isIn(97), false);
    Check.due("isIn(98)", full.isIn(98), true);
    Check.due("isIn(99)", full.isIn(99), true);
    Check.due("isIn(100)", full.isIn(100), false);
  }

  private static void fetchTakesSeven() {
    ErrorSlices x = Check.judged("(1,true)", 2);
    Check.due("count(4)", x.count(4), 11);
    Check.due("fetch", x.fetch(), 0x0728696E742C2062L);
    Check.due("count(4)", x.count(4), 4);
    Check.due("fetch", x.fetch(), 0x046F6F6C29000000L);
    Check.due("count(4)", x.count(4), 0);
    Check.due("fetch", x.fetch(), 0L);
    Check.due("count(4)", x.count(4), 0);
    ErrorSlices y = Check.judged("fn x=>true", 2);
    Check.due("fetch", y.fetch(), 0x0761202D3E20626FL);
    Check.due("fetch", y.fetch(), 0x026F6C0000000000L);
    Check.due("fetch", y.fetch(), 0L);
  }

  private static void fetchOfEveryLength() {
    StringBuilder words = new StringBuilder();
    StringBuilder letters = new StringBuilder();
    for (int i = 0; i < 19; i++) {
      words.append("fn x=>");
      String due = letters + "int -> int";
      ErrorSlices x = Check.judged(words + "x+1", 2);
      Check.due("length written for " + words, x.count(4), due.length());
      for (int left = due.length(); left > 0; left -= Math.min(left, 7)) {
        Check.due("bytes that are left", x.count(4), left);
        Check.due("bytes taken", x.fetch() >>> 56, (long) Math.min(left, 7));
      }
      Check.due("fetch at the end", x.fetch(), 0L);
      Check.dueType(words + "x+1", due);
      letters.append((char) ('a' + i)).append(" -> ");
    }
  }

  private static void counts() {
    ErrorSlices x = Check.judged("let id=fn x=>x in (id(1),id(true))", 2);
    Check.due("count(1)", x.count(1), 10);
    Check.due("count(2)", x.count(2), 0);
    Check.due("count(3)", x.count(3), 17);
    int[] others = {5, -1, 6, 100, Integer.MAX_VALUE, Integer.MIN_VALUE};
    for (int what : others) {
      Check.due("count(" + what + ")", x.count(what), -1);
      Check.due("count(" + what + ") of a new object", new ErrorSlices().count(what), -1);
    }
    ErrorSlices syntax = Check.judged("let id=fn x=>x in (id(1),id(true)", -1);
    Check.due("count(1) with fault 1", syntax.count(1), 0);
    ErrorSlices name = Check.judged("let id=fn x=>x in (id(1),ix(true))", -2);
    Check.due("count(1) with fault 2", name.count(1), 10);
    Check.due("count(3) with fault 2", name.count(3), 0);
  }

  private static void objectsAreApart() {
    ErrorSlices x = Check.judged("1+true", 1);
    ErrorSlices y = Check.judged("fn x=>x", 2);
    x.put('1', 1);
    Check.due("count(0) of the other", y.count(0), 0);
    Check.due("written of one", Check.written(x), ".. + true");
    Check.due("written of the other", Check.written(y), "a -> a");
  }
}
