/** Promise 6: the bytes that are written, at most seven a call. */
public final class FetchTest {
  public static void main(String[] args) {
    nothingWritten();
    fewerThanSeven();
    exactlySeven();
    moreThanSeven();
    everyLength();
    onlyOnce();
    newJudgeLeavesNothing();
    betweenOtherCalls();
    Check.end();
  }

  private static void nothingWritten() {
    ErrorSlices x = new ErrorSlices();
    Check.due("fetch of a new object", x.fetch(), 0L);
    String[] texts = {"", "1+", "x", Check.overRoom()};
    int[] answers = {-1, -1, -2, -3};
    for (int i = 0; i < texts.length; i++) {
      ErrorSlices y = Check.judged(texts[i], answers[i]);
      Check.due("count(4) of " + texts[i], y.count(4), 0);
      Check.due("fetch of " + texts[i], y.fetch(), 0L);
      Check.due("fetch again of " + texts[i], y.fetch(), 0L);
      Check.due("count(4) again of " + texts[i], y.count(4), 0);
    }
  }

  private static void dueFetches(String text, int answer, long... due) {
    ErrorSlices x = Check.judged(text, answer);
    for (long word : due) {
      int left = x.count(4);
      Check.due("fetch of " + text, x.fetch(), word);
      Check.due("bytes that are left of " + text, x.count(4), left - (int) (word >>> 56));
    }
    Check.due("fetch at the end of " + text, x.fetch(), 0L);
    Check.due("fetch at the end of " + text, x.fetch(), 0L);
    Check.due("bytes that are left of " + text, x.count(4), 0);
  }

  private static void fewerThanSeven() {
    dueFetches("1", 2, 0x03696E7400000000L);
    dueFetches("true", 2, 0x04626F6F6C000000L);
    dueFetches("fn x=>x", 2, 0x0661202D3E206100L);
  }

  private static void exactlySeven() {
    // a -> b -> bool: twice seven bytes, so that seven are left and then none.
    dueFetches("fn x=>fn y=>true", 2, 0x0761202D3E206220L, 0x072D3E20626F6F6CL);
    // 18 and 20 bytes: four at the end, and one less than seven.
    dueFetches("((1,2),true)", 2, 0x072828696E742C20L, 0x07696E74292C2062L, 0x046F6F6C29000000L);
    dueFetches("(true,(true,true))", 2, 0x0728626F6F6C2C20L, 0x0728626F6F6C2C20L, 0x06626F6F6C292900L);
  }

  private static void moreThanSeven() {
    // 8, 9, 11, 12 and 23 bytes.
    dueFetches("1(2)", 1, 0x07312028202E2E20L, 0x0129000000000000L);
    dueFetches("1+true", 1, 0x072E2E202B207472L, 0x0275650000000000L);
    dueFetches("(1,true)", 2, 0x0728696E742C2062L, 0x046F6F6C29000000L);
    dueFetches("not", 2, 0x07626F6F6C202D3EL, 0x0520626F6F6C0000L);
    dueFetches("fn x=>fn y=>fn z=>fn u=>1", 2, 0x0761202D3E206220L, 0x072D3E2063202D3EL, 0x072064202D3E2069L,
        0x026E740000000000L);
  }

  private static void everyLength() {
    StringBuilder words = new StringBuilder();
    StringBuilder letters = new StringBuilder();
    for (int i = 0; i < 19; i++) {
      words.append("fn x=>");
      String due = letters + "int -> int";
      ErrorSlices x = Check.judged(words + "x+1", 2);
      Check.due("length written for " + words, x.count(4), due.length());
      for (int left = due.length(); left > 0; left -= Math.min(left, 7)) {
        Check.due("bytes that are left", x.count(4), left);
        Check.due("bytes taken", x.fetch() >>> 56, (long) Math.min(left, 7));
      }
      Check.due("fetch at the end", x.fetch(), 0L);
      Check.dueType(words + "x+1", due);
      letters.append((char) ('a' + i)).append(" -> ");
    }
  }

  private static void onlyOnce() {
    ErrorSlices x = Check.judged("(1,true)", 2);
    Check.due("written", Check.written(x), "(int, bool)");
    for (int i = 0; i < 10; i++) {
      Check.due("fetch", x.fetch(), 0L);
      Check.due("count(4)", x.count(4), 0);
    }
    // What else is told of the text stays.
    Check.due("count(1)", x.count(1), 3);
    Check.due("count(3)", x.count(3), 3);
  }

  private static void newJudgeLeavesNothing() {
    String[] texts = {"1", "not(1)", "1+", "x", Check.overRoom()};
    String[] due = {"int", "not ( 1 )", "", "", ""};
    for (int i = 0; i < texts.length; i++) {
      for (int fetches = 0; fetches < 4; fetches++) {
        ErrorSlices x = Check.judged("fn x=>fn y=>fn z=>(x,y)", 2);
        for (int j = 0; j < fetches; j++) {
          x.fetch();
        }
        Check.judge(x, texts[i]);
        Check.due("count(4) of " + texts[i], x.count(4), due[i].length());
        Check.due("written for " + texts[i], Check.written(x), due[i]);
      }
    }
  }

  private static void betweenOtherCalls() {
    ErrorSlices x = Check.judged("fn x=>fn y=>true", 2);
    Check.due("put", Check.put(x, "1+true"), true);
    Check.due("count(4) behind a put", x.count(4), 14);
    Check.due("fetch behind a put", x.fetch(), 0x0761202D3E206220L);
    Check.due("put that is refused", x.put(1, 0), false);
    Check.due("place", x.place(), -1);
    Check.due("isIn(0)", x.isIn(0), false);
    Check.due("count(4)", x.count(4), 7);
    Check.due("count(0)", x.count(0), 6);
    Check.due("fetch", x.fetch(), 0x072D3E20626F6F6CL);
    Check.due("fetch", x.fetch(), 0L);
    Check.due("judge", x.judge(), 1);
    Check.due("written", Check.written(x), ".. + true");
  }
}
