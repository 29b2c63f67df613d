/** An object is used for at most 512 calls: all of them are answered as the first ones are. */
public final class LongUseTest {
  private int calls = 0;
  private final ErrorSlices x = new ErrorSlices();

  public static void main(String[] args) {
    putsAlone();
    judgesAlone();
    asksAlone();
    fetchesUpToTheLast();
    textsOfEachKind();
    dearestTexts();
    shortTexts();
    Check.end();
  }

  private void due(String what, Object got, Object want) {
    calls++;
    Check.due("call " + calls + ", " + what, got, want);
  }

  private void dueCalls(int want) {
    Check.due("calls made", calls, want);
  }

  private boolean has(int more) {
    return calls + more <= Check.CALLS;
  }

  private static void putsAlone() {
    LongUseTest t = new LongUseTest();
    for (int i = 1; i < Check.CALLS; i++) {
      t.due("put", t.x.put(0x20, 1), i <= 500);
    }
    t.due("count(0)", t.x.count(0), 500);
    t.dueCalls(Check.CALLS);
  }

  private static void judgesAlone() {
    LongUseTest t = new LongUseTest();
    for (int i = 1; i < Check.CALLS; i++) {
      t.due("judge", t.x.judge(), -1);
    }
    t.due("place", t.x.place(), 0);
    t.dueCalls(Check.CALLS);
  }

  private static void asksAlone() {
    LongUseTest t = new LongUseTest();
    t.due("put", t.x.put(0x31287829, 4), true);
    t.due("put", t.x.put(0x2B31, 2), true);
    t.due("judge of 1(x)+1", t.x.judge(), -2);
    t.due("put", t.x.put(0x31283129, 4), true);
    t.due("judge of 1(1)", t.x.judge(), 1);
    for (int i = 0; t.has(1); i++) {
      switch (i % 4) {
        case 0 -> t.due("place", t.x.place(), -1);
        case 1 -> t.due("isIn", t.x.isIn(i % 3), i % 3 < 2);
        case 2 -> t.due("count(2)", t.x.count(2), 2);
        default -> t.due("count(4)", t.x.count(4), 8);
      }
    }
    t.dueCalls(Check.CALLS);
  }

  private static void fetchesUpToTheLast() {
    LongUseTest t = new LongUseTest();
    t.putAll("let a=fn x=>(x,x) in let b=fn x=>a(a(x)) in let c=fn x=>b(b(x)) in c(c(c(1)))");
    t.due("judge", t.x.judge(), 2);
    int left = 4000;
    while (t.has(2)) {
      t.due("bytes taken", t.x.fetch() >>> 56, (long) Math.min(7, left));
      left -= Math.min(7, left);
    }
    t.due("count(4)", t.x.count(4), left);
    t.dueCalls(Check.CALLS);
  }

  private void putAll(String text) {
    for (int from = 0; from < text.length(); from += 8) {
      String piece = text.substring(from, Math.min(from + 8, text.length()));
      long v = 0;
      for (int i = 0; i < piece.length(); i++) {
        v = v << 8 | piece.charAt(i);
      }
      due("put of " + piece, x.put(v, piece.length()), true);
    }
  }

  /** Judges a text and asks all there is, if there are calls enough; answers whether there were. */
  private boolean judgeAndAsk(String text) {
    Reference due = new Reference(text);
    int fetches = due.written.length() / 7 + 1;
    if (!has(Check.puts(text) + 6 + fetches)) {
      return false;
    }
    putAll(text);
    due("judge of " + text, x.judge(), due.answer);
    due("place of " + text, x.place(), due.place);
    due("count(1) of " + text, x.count(1), due.nodeCount);
    due("count(2) of " + text, x.count(2), due.slice.size());
    due("count(3) of " + text, x.count(3), due.variables);
    due("isIn(1) of " + text, x.isIn(1), due.slice.contains(1));
    calls += fetches;
    Check.due("written for " + text, Check.written(x, fetches), due.written);
    return true;
  }

  private static void judgeUpToTheLast(String... texts) {
    LongUseTest t = new LongUseTest();
    int judged = 0;
    while (t.judgeAndAsk(texts[judged % texts.length])) {
      judged++;
    }
    while (t.has(1)) {
      t.due("count(0)", t.x.count(0), 0);
    }
    t.dueCalls(Check.CALLS);
  }

  private static void textsOfEachKind() {
    judgeUpToTheLast("fn x=>fn y=>(y,x)", "1+true", "(1,2", "(1,x)", "let i=fn x=>x in i(i)", "", "fn x=>x(x)", " $",
        "let d=fn x=>(x,x) in d(d(d(1)))", "if 1 then 2 else true");
    judgeUpToTheLast(Check.overRoom(), "1", Check.overRoom().replace("true", "1"), "not(1)");
  }

  private static void dearestTexts() {
    judgeUpToTheLast(Check.fullRoom(), Check.fullRoom().replace("true", "1"));
    judgeUpToTheLast("fn x=>" + Check.ones(50), "fn x=>" + Check.ones(49) + "+true", "(".repeat(500));
  }

  private static void shortTexts() {
    LongUseTest t = new LongUseTest();
    for (int i = 0; t.has(4); i++) {
      boolean isOne = i % 2 == 0;
      t.due("put", t.x.put(isOne ? 0x31 : 0x78, 1), true);
      t.due("judge", t.x.judge(), isOne ? 2 : -2);
      t.due("place", t.x.place(), isOne ? -1 : 0);
      t.due("fetch", t.x.fetch(), isOne ? 0x03696E7400000000L : 0L);
    }
    t.dueCalls(Check.CALLS);
  }
}
