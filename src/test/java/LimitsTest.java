/** Terms, FAULTS: at most 100 nodes, 20 exp in one another and 2000 variables, from both sides. */
public final class LimitsTest {
  public static void main(String[] args) {
    lastNodeThatIsAllowed();
    firstNodeThatIsNot();
    partsOfTheHundredth();
    bracketsAreNoNodes();
    pairsCountFromTheirComma();
    twentyInEveryWay();
    twentyInMixedWays();
    whatIsNoExpIsNoLevel();
    twentyFirstAtTheEnd();
    bothLimits();
    room();
    roomWithNamesOfFns();
    roomFarBeyond();
    roomFullOfParts();
    fullOfTokens();
    Check.end();
  }

  private static void dueHundred(String text) {
    ErrorSlices slices = new ErrorSlices();
    Check.due("that there is no fault in " + text, Check.judge(slices, text) > 0, true);
    Check.due("place in " + text, slices.place(), -1);
    Check.due("nodes of " + text, slices.count(1), 100);
  }

  private static void dueTooMany(String start, String rest) {
    Check.dueSyntax(start + rest, start.length());
    Check.due("nodes of " + start + rest, Check.judged(start + rest, -1).count(1), 0);
  }

  private static void lastNodeThatIsAllowed() {
    String[] atoms = {"1", "true", "false", "not", "fst", "snd", "x"};
    for (String atom : atoms) {
      dueHundred("fn x=>(" + Check.nodes(97) + "," + atom + ")");
    }
    dueHundred(Check.nodes(98) + "+1");
    dueHundred(Check.nodes(98) + "<1");
    dueHundred(Check.nodes(98) + "(1)");
    dueHundred("(" + Check.nodes(98) + ",1)");
    dueHundred("fn y=>" + Check.nodes(99));
    dueHundred("let y=1 in " + Check.nodes(98));
    dueHundred("if true then 1 else " + Check.nodes(97));
    dueHundred(Check.nodes(100));
    dueHundred(Check.nodes(100) + " ");
  }

  private static void firstNodeThatIsNot() {
    String[] exps = {"1", "true", "false", "not", "fst", "snd", "x", "y", "fn y=>1", "let y=1 in 2",
        "if true then 1 else 2"};
    for (String exp : exps) {
      dueTooMany("fn x=>(" + Check.nodes(98) + ",", exp + ")");
      dueTooMany("fn x=>(" + Check.nodes(98) + ", \n", exp + ")");
    }
    String[] more = {"+1", "<1", "(1)", "+", "<", "(", "()", "+)"};
    for (String rest : more) {
      dueTooMany(Check.nodes(100), rest);
      dueTooMany(Check.nodes(100) + " ", rest);
    }
    dueTooMany("(" + Check.nodes(100), ",1)");
    dueTooMany("(" + Check.nodes(100) + " ", ",1)");
    dueTooMany("fn y=>" + Check.ones(50), "+1");
  }

  private static void partsOfTheHundredth() {
    dueTooMany(Check.nodes(99) + "+", "1");
    dueTooMany(Check.nodes(99) + "<", "1");
    dueTooMany(Check.nodes(99) + "(", "1)");
    dueTooMany("(" + Check.nodes(99) + ",", "1)");
    dueTooMany("(" + Check.nodes(98) + ",fn y=>", "1)");
    dueTooMany("(" + Check.nodes(98) + ",let y=", "1 in 2)");
    dueTooMany("(" + Check.nodes(97) + ",let y=1 in ", "2)");
    dueTooMany("(" + Check.nodes(98) + ",if ", "true then 1 else 2)");
    dueTooMany("(" + Check.nodes(97) + ",if true then ", "1 else 2)");
    dueTooMany("(" + Check.nodes(96) + ",if true then 1 else ", "2)");
  }

  private static void bracketsAreNoNodes() {
    dueHundred("((((" + Check.nodes(100) + "))))");
    dueHundred("(" + Check.nodes(98) + ",((((1)))))");
    dueTooMany("(" + Check.nodes(99) + ",((((", "1)))))");
    // Nothing is refused at a bracket that may still be no node.
    Check.dueSyntax("(" + Check.nodes(99) + ",()", Check.nodes(99).length() + 3);
  }

  private static void pairsCountFromTheirComma() {
    dueTooMany("fn x=>" + Check.nodes(97) + "+(1", ",1)");
    dueTooMany("fn x=>" + Check.nodes(96) + "+(1,", "true+1)");
    dueTooMany(Check.nodes(98) + "+(1", ",1)");
    dueTooMany(Check.nodes(97) + "+(1,", "1)");
    dueHundred(Check.nodes(96) + "+(1,1)");
    dueTooMany(Check.nodes(98) + "+((1)", ",(1))");
    // The 100th is the number in the bracket, though a pair would have the lower number.
    dueTooMany(Check.nodes(98) + "+(1 \n", ",1)");
  }

  /** Nineteen levels around an exp are fine; at the twentieth the first exp in it is refused. */
  private static void dueLevels(String ahead, String behind, int firstInIt) {
    String inner = ahead.repeat(19) + "1" + behind.repeat(19);
    ErrorSlices slices = new ErrorSlices();
    Check.due("that there is no fault in " + inner, Check.judge(slices, inner) > 0, true);
    Check.due("place in " + inner, slices.place(), -1);
    String outer = ahead.repeat(20) + "1" + behind.repeat(20);
    int place = 19 * ahead.length() + firstInIt;
    Check.dueSyntax(outer, place);
    Check.dueSyntax(outer.substring(0, place), place);
    Check.dueSyntax(outer.substring(0, place) + " \n", place + 2);
    Check.dueSyntax(outer.substring(0, place) + " 1" + outer.substring(place + 1), place + 1);
  }

  private static void twentyInEveryWay() {
    dueLevels("fn x=>", "", 6);
    dueLevels("let x=", " in 1", 6);
    dueLevels("let x=1 in ", "", 6);
    dueLevels("if ", " then 1 else 1", 3);
    dueLevels("if 1 then ", " else 1", 3);
    dueLevels("if 1 then 1 else ", "", 3);
    dueLevels("(", ")", 1);
    dueLevels("(", ",1)", 1);
    dueLevels("(1,", ")", 1);
    dueLevels("1(", ")", 2);
    dueLevels("1+(", ")", 3);
    dueLevels("1<1(", ")", 4);
  }

  private static void twentyInMixedWays() {
    String nineteen = "fn x=>".repeat(9) + "(".repeat(10);
    String closed = ")".repeat(10);
    Check.due("judge", Check.judge(new ErrorSlices(), nineteen + "x" + closed), 2);
    Check.due("judge", Check.judge(new ErrorSlices(), nineteen + "x+x<x" + closed), 2);
    Check.dueSyntax(nineteen + "(x)" + closed, nineteen.length() + 1);
    Check.dueSyntax(nineteen + "x(x)" + closed, nineteen.length() + 2);
    Check.dueSyntax(nineteen + "x+(x)" + closed, nineteen.length() + 3);
    Check.dueSyntax(nineteen + "fn y=>x" + closed, nineteen.length() + 6);
    Check.dueSyntax(nineteen + "if x then x else x" + closed, nineteen.length() + 3);
    Check.dueSyntax(nineteen + "let y=x in x" + closed, nineteen.length() + 6);
    // A let's two exps stand on the same level.
    String eighteen = "fn x=>".repeat(8) + "(".repeat(10);
    Check.due("judge", Check.judge(new ErrorSlices(), eighteen + "let y=x in x" + closed), 2);
    Check.dueSyntax(eighteen + "let y=x in (x)" + closed, eighteen.length() + 12);
    Check.dueSyntax(eighteen + "let y=(x) in x" + closed, eighteen.length() + 7);
    Check.due("judge", Check.judge(new ErrorSlices(), eighteen + "if x then x else x" + closed), 2);
    Check.dueSyntax(eighteen + "if x then x else (x)" + closed, eighteen.length() + 18);
  }

  private static void whatIsNoExpIsNoLevel() {
    Check.dueSlice("1" + "(1)".repeat(33), "1 ( .. ) ..");
    Check.dueType(Check.ones(50), "int");
    // Exps beside one another are on one level, as often as they like.
    String deep = "(".repeat(18) + "1" + ")".repeat(18);
    Check.dueType("(" + deep + "," + deep + ")", "(int, int)");
    Check.dueType(deep + "+" + deep + "+" + deep + "<" + deep, "bool");
    Check.dueType("let x=" + deep + " in " + deep, "int");
    Check.dueSyntax("(" + deep + ",(" + deep + "))", 37 + 2 + 1 + 18);
  }

  private static void twentyFirstAtTheEnd() {
    Check.dueSyntax("(".repeat(19), 19);
    Check.dueSyntax("(".repeat(20), 20);
    Check.dueSyntax("(".repeat(21), 20);
    Check.dueSyntax("(".repeat(500), 20);
    Check.dueSyntax("fn x=>".repeat(20), 120);
    Check.dueSyntax("fn x=>".repeat(83), 120);
    Check.dueSyntax("(".repeat(20) + " $", 21);
    Check.dueSyntax("( ".repeat(20) + "1", 40);
  }

  private static void bothLimits() {
    // The 21st exp and the 101st node at one token, and each ahead of the other.
    String hundred = "(" + Check.nodes(99) + ",";
    Check.dueSyntax(hundred + "(".repeat(18) + "1", hundred.length() + 18);
    Check.dueSyntax(hundred + "(".repeat(19) + "1", hundred.length() + 19);
    Check.dueSyntax(hundred + "(".repeat(20) + "1", hundred.length() + 19);
  }

  private static void room() {
    ErrorSlices full = Check.judged(Check.fullRoom(), 2);
    Check.due("variables", full.count(3), 2000);
    Check.due("nodes", full.count(1), 78);
    Check.due("place", full.place(), -1);
    Check.due("written", Check.written(full), "int");
    ErrorSlices none = Check.judged(Check.fullRoom().replace("true", "1"), 1);
    Check.due("variables of a text without type", none.count(3), 2000);
    Check.due("slice", Check.written(none), ".. if 1 then .. else ..");
    String over = Check.overRoom();
    Check.dueFault(over, -3, over.length());
    Check.dueFault(over + " \n", -3, over.length() + 2);
    Check.dueFault(" \n" + over, -3, over.length() + 2);
    Check.due("nodes", Check.judged(over, -3).count(1), 96);
    // Without a type there would be a slice, but for the room.
    String without = over.replace("true", "1");
    Check.dueFault(without, -3, without.length());
    String full500 = over + " ".repeat(500 - over.length());
    Check.dueFault(full500, -3, 500);
  }

  private static void roomWithNamesOfFns() {
    // A fn has two variables, in the text and in each copy.
    String fits = Check.twoLets("fn x=>if true then " + Check.ones(12) + " else " + Check.ones(11), 13, 2);
    ErrorSlices full = Check.judged(fits, 1);
    Check.due("variables", full.count(3), 2000);
    String over = Check.twoLets("fn x=>if true then " + Check.ones(19) + " else " + Check.ones(19), 6, 3);
    Check.dueFault(over, -3, over.length());
    Check.due("nodes", Check.judged(over, -3).count(1), 95);
  }

  private static void roomFarBeyond() {
    // Each let with two names of the one ahead: eighteen are more copies than rows could hold.
    StringBuilder lets = new StringBuilder("let a=1 in ");
    for (int i = 1; i < 19; i++) {
      char name = (char) ('a' + i);
      char last = (char) (name - 1);
      lets.append("let " + name + "=" + last + "+" + last + " in ");
      String text = lets + "1";
      ErrorSlices slices = new ErrorSlices();
      int answer = Check.judge(slices, text);
      // Of the i-th let's exp a copy has 4 * 2^i - 3 variables, and the text has one of each.
      int due = 8 * ((1 << i) - 1) + 4 - 3 * (i + 1) + i + 2;
      Check.due("judge of " + text, answer, due <= 2000 ? 2 : -3);
      Check.due("variables of " + text, slices.count(3), due <= 2000 ? due : 0);
      Check.due("place of " + text, slices.place(), due <= 2000 ? -1 : text.length());
    }
  }

  /** The types of so many fst in pairs, each of two letters of its own, as far as they are written. */
  private static String typesOfFst(String pairs) {
    StringBuilder due = new StringBuilder();
    int letters = 0;
    for (char c : pairs.toCharArray()) {
      if (c == '?') {
        String first = letter(letters);
        due.append("(" + first + ", " + letter(letters + 1) + ") -> " + first);
        letters += 2;
      } else {
        due.append(c == ',' ? ", " : "" + c);
      }
    }
    return due.substring(0, Math.min(due.length(), 4000));
  }

  private static String letter(int i) {
    return (char) ('a' + i % 26) + (i < 26 ? "" : String.valueOf(i / 26));
  }

  private static void dueFullOfParts(String text, int variables, String type) {
    ErrorSlices x = Check.judged(text, 2);
    Check.due("variables of " + text, x.count(3), variables);
    Check.due("bytes written for " + text, x.count(4), type.length());
    int fetches = Check.CALLS - Check.puts(text) - 3;
    Check.due("type of " + text, Check.written(x, fetches), type.substring(0, 7 * fetches));
  }

  private static void roomFullOfParts() {
    // Of all nodes fst and snd ask the largest types; in a full room there are most of them.
    String lets = "let a=" + Check.pairs("fst", 17) + " in let b=" + Check.pairs("a", 7) + " in ";
    String types = Check.pairs(Check.pairs("?", 17), 7);
    dueFullOfParts(lets + Check.pairs("b", 7), 2000, typesOfFst(Check.pairs(types, 7)));
    ErrorSlices none = Check.judged(lets + Check.pairs("b", 3) + "(" + Check.pairs("b", 4) + ")", 1);
    Check.due("variables of a text without type", none.count(3), 2000);
    Check.due("slice", Check.written(none), ".. ( .. , .. ) ( .. )");
    // Two large types are made the same, part by part.
    String two = "let a=" + Check.pairs("fst", 31) + " in let b=" + Check.pairs("a", 10) + " in if true then b else b";
    dueFullOfParts(two, 1954, typesOfFst(Check.pairs(Check.pairs("?", 31), 10)));
  }

  private static void fullOfTokens() {
    // A number in nineteen brackets is 39 tokens; no text that has a type has 500 of one byte each.
    String deep = "(".repeat(19) + "1" + ")".repeat(19);
    String most = deep + ("+" + deep).repeat(11);
    String typed = most + "+" + "(".repeat(9) + "1" + ")".repeat(9);
    Check.due("length", typed.length(), 499);
    Check.dueType(typed, "int");
    Check.dueType(typed + " ", "int");
    Check.dueSyntax(typed + "+", 500);
    Check.dueSyntax(typed + ")", 499);
    Check.dueSyntax(typed + "$", 499);
    String full = most + "+1(" + "(".repeat(8) + "1" + ")".repeat(8) + ")";
    Check.due("length", full.length(), 500);
    Check.dueSlice(full, ".. 1 ( .. )");
    Check.dueNodes(full, "0".repeat(24) + "110");
    Check.dueSyntax(full.substring(0, 499), 499);
    Check.dueSyntax(full.substring(0, 499) + "+", 500);
    Check.dueSyntax(full.substring(0, 499) + "<", 500);
    Check.dueSyntax(full.substring(0, 499) + "=", 499);
    Check.dueFault(full.substring(0, 480) + "x" + full.substring(481), -2, 480);
  }
}
