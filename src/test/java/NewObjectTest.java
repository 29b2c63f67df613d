/** Promise 1: a new object has no text, and nothing is judged. */
public final class NewObjectTest {
  private static final int[] NUMBERS =
      {Integer.MIN_VALUE, -100, -1, 0, 1, 7, 99, 100, 101, 499, 500, 2000, Integer.MAX_VALUE};

  public static void main(String[] args) {
    everyMethodFirst();
    beforeTheFirstJudge();
    judgeOfNoText();
    objectsAreApart();
    Check.end();
  }

  private static void dueNothingJudged(String when, ErrorSlices x) {
    Check.due("place " + when, x.place(), -1);
    for (int k : NUMBERS) {
      Check.due("isIn(" + k + ") " + when, x.isIn(k), false);
    }
    Check.due("fetch " + when, x.fetch(), 0L);
    Check.due("fetch again " + when, x.fetch(), 0L);
    for (int what = 1; what <= 4; what++) {
      Check.due("count(" + what + ") " + when, x.count(what), 0);
    }
    Check.due("count(-1) " + when, x.count(-1), -1);
    Check.due("count(5) " + when, x.count(5), -1);
  }

  private static void everyMethodFirst() {
    Check.due("place", new ErrorSlices().place(), -1);
    Check.due("isIn", new ErrorSlices().isIn(0), false);
    Check.due("fetch", new ErrorSlices().fetch(), 0L);
    Check.due("judge", new ErrorSlices().judge(), -1);
    Check.due("put", new ErrorSlices().put(49, 1), true);
    Check.due("put that is refused", new ErrorSlices().put(49, 0), false);
    for (int what = 0; what <= 4; what++) {
      Check.due("count(" + what + ")", new ErrorSlices().count(what), 0);
    }
    for (int what : new int[] {Integer.MIN_VALUE, -1, 5, Integer.MAX_VALUE}) {
      Check.due("count(" + what + ")", new ErrorSlices().count(what), -1);
    }
  }

  private static void beforeTheFirstJudge() {
    ErrorSlices x = new ErrorSlices();
    dueNothingJudged("of a new object", x);
    Check.due("count(0) of a new object", x.count(0), 0);
    Check.put(x, "1+true");
    dueNothingJudged("before the first judge", x);
    Check.due("count(0) before the first judge", x.count(0), 6);
    Check.due("judge", x.judge(), 1);
    Check.due("written", Check.written(x), ".. + true");
  }

  private static void judgeOfNoText() {
    ErrorSlices x = new ErrorSlices();
    Check.due("judge of no text", x.judge(), -1);
    Check.due("place", x.place(), 0);
    for (int what = 0; what <= 4; what++) {
      Check.due("count(" + what + ")", x.count(what), 0);
    }
    Check.due("fetch", x.fetch(), 0L);
  }

  private static void objectsAreApart() {
    ErrorSlices x = Check.judged("1+true", 1);
    ErrorSlices y = Check.judged("fn x=>x", 2);
    x.put('1', 1);
    ErrorSlices z = new ErrorSlices();
    dueNothingJudged("of an object beside others", z);
    Check.due("count(0) of the other", y.count(0), 0);
    Check.due("count(0) of the third", z.count(0), 0);
    Check.due("written of one", Check.written(x), ".. + true");
    Check.due("written of the other", Check.written(y), "a -> a");
    Check.due("judge of one", x.judge(), 2);
    Check.due("isIn of one", x.isIn(1), false);
  }
}
