/** Promises 3 and 4: what judge answers, the text that is gone then, and the place of a fault. */
public final class JudgeTest {
  // Texts with each answer, and the places of their faults.
  private static final String[] TEXTS =
      {"fn x=>x", "1+true", "1+", "(1,x)", Check.overRoom(), "", " \n ", "1", "not(1)", "$"};
  private static final int[] ANSWERS = {2, 1, -1, -2, -3, -1, -1, 2, 1, -1};
  private static final int[] PLACES = {-1, -1, 2, 3, Check.overRoom().length(), 0, 3, -1, -1, 0};

  public static void main(String[] args) {
    emptyText();
    blanksAlone();
    eachAnswerBehindEach();
    textIsGoneThen();
    placeStaysUntilTheNext();
    judgingAgain();
    Check.end();
  }

  private static void emptyText() {
    ErrorSlices x = new ErrorSlices();
    for (int i = 0; i < 5; i++) {
      Check.due("judge of an empty text", x.judge(), -1);
      Check.due("place", x.place(), 0);
      Check.due("count(1)", x.count(1), 0);
    }
  }

  private static void blanksAlone() {
    for (int n = 1; n <= 20; n++) {
      Check.dueSyntax(" ".repeat(n), n);
      Check.dueSyntax("\n".repeat(n), n);
    }
    Check.dueSyntax("\n ".repeat(250), 500);
  }

  private static void eachAnswerBehindEach() {
    for (int i = 0; i < TEXTS.length; i++) {
      for (int j = 0; j < TEXTS.length; j++) {
        ErrorSlices x = new ErrorSlices();
        Check.due("judge of " + TEXTS[i], Check.judge(x, TEXTS[i]), ANSWERS[i]);
        Check.due("place in " + TEXTS[i], x.place(), PLACES[i]);
        String second = TEXTS[j] + " behind " + TEXTS[i];
        Check.due("judge of " + second, Check.judge(x, TEXTS[j]), ANSWERS[j]);
        Check.due("place in " + second, x.place(), PLACES[j]);
        Check.due("place in " + second, x.place(), PLACES[j]);
      }
    }
  }

  private static void textIsGoneThen() {
    for (int i = 0; i < TEXTS.length; i++) {
      ErrorSlices x = new ErrorSlices();
      Check.put(x, TEXTS[i]);
      Check.due("count(0) of " + TEXTS[i], x.count(0), TEXTS[i].length());
      x.judge();
      Check.due("count(0) after judge of " + TEXTS[i], x.count(0), 0);
      Check.put(x, "1");
      Check.due("count(0) of 1 then", x.count(0), 1);
      Check.due("judge of 1 then", x.judge(), 2);
      Check.due("written then", Check.written(x), "int");
    }
  }

  private static void placeStaysUntilTheNext() {
    ErrorSlices x = Check.judged("fn x=>(x,y)", -2);
    Check.due("place", x.place(), 9);
    Check.due("put", x.put('1', 1), true);
    Check.due("place behind a put", x.place(), 9);
    Check.due("put that is refused", x.put('1', 9), false);
    Check.due("place behind a put that is refused", x.place(), 9);
    Check.due("fetch", x.fetch(), 0L);
    Check.due("count(1)", x.count(1), 4);
    Check.due("isIn(0)", x.isIn(0), false);
    Check.due("place behind questions", x.place(), 9);
    Check.due("judge", x.judge(), 2);
    Check.due("place without a fault", x.place(), -1);
    Check.due("put", x.put('(', 1), true);
    Check.due("place before it is judged", x.place(), -1);
    Check.due("judge", x.judge(), -1);
    Check.due("place", x.place(), 1);
  }

  private static void judgingAgain() {
    for (int i = 0; i < TEXTS.length; i++) {
      ErrorSlices x = Check.judged(TEXTS[i], ANSWERS[i]);
      // The text has gone: now there is none.
      Check.due("judge again", x.judge(), -1);
      Check.due("place again", x.place(), 0);
      for (int what = 0; what <= 4; what++) {
        Check.due("count(" + what + ") again", x.count(what), 0);
      }
      Check.due("isIn(1) again", x.isIn(1), false);
      Check.due("fetch again", x.fetch(), 0L);
    }
  }
}
