/** WHAT IS WRITTEN: types and their letters, slices and what stands between their tokens, 4000 bytes. */
public final class WrittenTest {
  public static void main(String[] args) {
    bracketsAroundFroms();
    pairs();
    lettersInTheOrderOfTheType();
    lettersUpToZAndOn();
    lettersWithTwoDigits();
    betweenTokensOfASlice();
    aheadOfASliceAndBehind();
    tokensAsTheyStand();
    fourThousandBytes();
    farMoreThanFourThousand();
    nothingForFaults();
    Check.end();
  }

  private static void bracketsAroundFroms() {
    Check.dueType("fn x=>fn y=>1", "a -> b -> int");
    Check.dueType("fn f=>f(1)", "(int -> a) -> a");
    Check.dueType("fn f=>fn x=>f(x)", "(a -> b) -> a -> b");
    Check.dueType("fn f=>fn g=>fn x=>f(g(x))", "(a -> b) -> (c -> a) -> c -> b");
    Check.dueType("fn f=>f(fn x=>x)", "((a -> a) -> b) -> b");
    Check.dueType("fn f=>f(fn g=>g(1))", "(((int -> a) -> a) -> b) -> b");
    Check.dueType("fn x=>not", "a -> bool -> bool");
    Check.dueType("fn f=>f(1)(2)", "(int -> int -> a) -> a");
    Check.dueType("fn f=>f(not)(2)+1", "((bool -> bool) -> int -> int) -> int");
    // A from that is a pair has its own brackets and no more.
    Check.dueType("fn p=>fst(p)(snd(p))", "(a -> b, a) -> b");
    Check.dueType("fn p=>fst(p)(1)", "(int -> a, b) -> a");
  }

  private static void pairs() {
    Check.dueType("(1,2)", "(int, int)");
    Check.dueType("((1,2),3)", "((int, int), int)");
    Check.dueType("(1,(2,3))", "(int, (int, int))");
    Check.dueType("(fn x=>x,fn x=>x)", "(a -> a, b -> b)");
    Check.dueType("(fn f=>f(1),not)", "((int -> a) -> a, bool -> bool)");
    Check.dueType("fn x=>(x,fn y=>(y,x))", "a -> (a, b -> (b, a))");
    Check.dueType("fn x=>fn y=>fn z=>(z,(y,x))", "a -> b -> c -> (c, (b, a))");
    Check.dueType("(fn f=>fn x=>f(f(x)))(fn x=>(1,2))", "(int, int) -> (int, int)");
  }

  private static void lettersInTheOrderOfTheType() {
    Check.dueType("fn x=>fn y=>(y,x)", "a -> b -> (b, a)");
    Check.dueType("(fn x=>fn y=>(y,x))(1)", "a -> (a, int)");
    Check.dueType("fn p=>(snd(p),fst(p))", "(a, b) -> (b, a)");
    Check.dueType("let k=fn x=>fn y=>x in (k,k)", "(a -> b -> a, c -> d -> c)");
    Check.dueType("let s=snd in let f=fst in (f,s)", "((a, b) -> a, (c, d) -> d)");
    Check.dueType("fn x=>fn y=>fn z=>if true then z else x", "a -> b -> a -> a");
    Check.dueType("fn x=>fn f=>f(x)", "a -> (a -> b) -> b");
  }

  private static String letter(int i) {
    return (char) ('a' + i % 26) + (i < 26 ? "" : String.valueOf(i / 26));
  }

  /** Pairs of functions, each from a letter of its own to that. */
  private static String lettered(String pairs) {
    StringBuilder due = new StringBuilder(pairs.replace(",", ", "));
    for (int i = 0; due.indexOf("?") >= 0; i++) {
      int at = due.indexOf("?");
      due.replace(at, at + 1, letter(i) + " -> " + letter(i));
    }
    return due.toString();
  }

  private static void lettersUpToZAndOn() {
    String start = "let i=fn x=>x in ";
    for (int n = 25; n <= 28; n++) {
      Check.dueType(start + Check.pairs("i", n), lettered(Check.pairs("?", n)));
    }
    Check.due("the letter behind z", lettered(Check.pairs("?", 27)).endsWith("(z -> z, a1 -> a1)))))"), true);
    String half = start + "let t=" + Check.pairs("i", 26) + " in ";
    String due = Check.pairs("?", 26);
    Check.dueType(half + "(t,t)", lettered("(" + due + "," + due + ")"));
    Check.dueType(half + "(t,(t,i))", lettered("(" + due + ",(" + due + ",?))"));
    Check.due("the letters behind z1", lettered("(" + due + ",(" + due + ",?))").endsWith(", a2 -> a2))"), true);
    Check.dueType(half + "(t,(t,(t,i)))", lettered("(" + due + ",(" + due + ",(" + due + ",?)))"));
    // Letters are of what is written, not of all there is.
    Check.dueType(half + "snd((t,(snd((1,t)),i)))", lettered("(" + due + ",?)"));
  }

  private static void lettersWithTwoDigits() {
    String text = "let i=fn x=>x in let t=" + Check.pairs("i", 27) + " in " + Check.pairs("t", 10);
    String due = lettered(Check.pairs(Check.pairs("?", 27), 10));
    Check.due("that there are two digits", due.contains("z9 -> z9, a10 -> a10), (b10 -> b10"), true);
    Check.due("that it takes few enough calls", Check.puts(text) + 4 + due.length() / 7 + 2 <= Check.CALLS, true);
    Check.dueType(text, due);
  }

  private static void betweenTokensOfASlice() {
    Check.dueSlice("not(1)", "not ( 1 )");
    Check.dueSlice("not ( 1 )", "not ( 1 )");
    Check.dueSlice("not\n \n(\n1  )", "not ( 1 )");
    Check.dueSlice("not((1))", "not ( .. 1 .. )");
    Check.dueSlice("not(((1)))", "not ( .. 1 .. )");
    Check.dueSlice("(1)(2)", ".. 1 .. ( .. )");
    Check.dueSlice("1(2)", "1 ( .. )");
    Check.dueSlice("1((2+3,4))", "1 ( .. )");
    Check.dueSlice("(1,2)+3", "( .. , .. ) + ..");
    Check.dueSlice("(not)(1)", ".. not .. ( 1 )");
    Check.dueSlice("if(1)then 2 else 3", "if .. 1 .. then .. else ..");
    Check.dueSlice("if 1 then 2 else 3", "if 1 then .. else ..");
    Check.dueSlice("fn x=>(x+1,not(x))", ".. x + .. not ( x ) ..");
  }

  private static void aheadOfASliceAndBehind() {
    Check.dueSlice("not(1)", "not ( 1 )");
    Check.dueSlice("(not(1))", ".. not ( 1 ) ..");
    Check.dueSlice("fn x=>not(1)", ".. not ( 1 )");
    Check.dueSlice("1(2)(3)", "1 ( .. ) ..");
    Check.dueSlice("not(1)(2)", "not ( .. ) ( .. )");
    Check.dueSlice("true+1", "true + ..");
    Check.dueSlice("1+true", ".. + true");
    Check.dueSlice("1+true+2", ".. + true ..");
    // Blanks are no tokens: they leave nothing ahead and nothing behind.
    Check.dueSlice(" \nnot(1)\n ", "not ( 1 )");
    Check.dueSlice(" (not(1)) ", ".. not ( 1 ) ..");
  }

  private static void tokensAsTheyStand() {
    Check.dueSlice("fn longername=>longername(longername)", ".. longername ( longername )");
    Check.dueSlice("012345678(1)", "012345678 ( .. )");
    Check.dueSlice("000+not", ".. + not");
    Check.dueSlice("1+(fn abcdefghij=>1)", ".. + .. fn abcdefghij => ..");
    Check.dueSlice("1+(let abcdefghij=2 in true)", ".. + .. let abcdefghij = .. in true ..");
  }

  private static String doubled(int times, String leaf) {
    return times == 0 ? leaf : "(" + doubled(times - 1, leaf) + ", " + doubled(times - 1, leaf) + ")";
  }

  /** Pairs from the right of pieces such as cca1: a leaf, 1 or t, that c, b and a make pairs of. */
  private static String textOf(String... pieces) {
    String text = "";
    for (int i = pieces.length - 1; i >= 0; i--) {
      String leaf = pieces[i].endsWith("t") ? "true" : "1";
      for (int j = pieces[i].length() - 2; j >= 0; j--) {
        leaf = pieces[i].charAt(j) + "(" + leaf + ")";
      }
      text = text.isEmpty() ? leaf : "(" + leaf + "," + text + ")";
    }
    return "let a=fn x=>(x,x) in let b=fn x=>a(a(x)) in let c=fn x=>b(b(x)) in " + text;
  }

  private static String typeOf(String... pieces) {
    String type = "";
    for (int i = pieces.length - 1; i >= 0; i--) {
      int times = 0;
      for (int j = 0; j < pieces[i].length() - 1; j++) {
        times += pieces[i].charAt(j) == 'a' ? 1 : pieces[i].charAt(j) == 'b' ? 2 : 4;
      }
      String leaf = doubled(times, pieces[i].endsWith("t") ? "bool" : "int");
      type = type.isEmpty() ? leaf : "(" + leaf + ", " + type + ")";
    }
    return type;
  }

  private static void dueLong(int length, String... pieces) {
    String text = textOf(pieces);
    String type = typeOf(pieces);
    Check.due("length of the type of " + text, type.length(), length);
    ErrorSlices x = Check.judged(text, 2);
    int written = Math.min(length, 4000);
    Check.due("count(4) of " + text, x.count(4), written);
    int fetches = Check.CALLS - Check.puts(text) - 3;
    Check.due("written for " + text, Check.written(x, fetches), type.substring(0, 7 * fetches));
    Check.due("count(4) then", x.count(4), written - 7 * fetches);
  }

  private static void fourThousandBytes() {
    // An int in pairs is 7 bytes, but for the first, which is 3; a bool is one more.
    dueLong(3993, "cca1", "ca1", "c1", "ba1", "a1", "1");
    dueLong(3999, "cca1", "ca1", "c1", "bt", "b1", "at", "1");
    dueLong(4000, "cca1", "ca1", "c1", "bt", "b1", "at", "t");
    dueLong(4000, "cca1", "ca1", "c1", "ba1", "b1");
    dueLong(4001, "cca1", "ca1", "c1", "ba1", "a1", "1", "t");
    dueLong(4007, "cca1", "ca1", "c1", "ba1", "b1", "1");
  }

  private static void farMoreThanFourThousand() {
    dueLong(7 * 1024 - 4, "ccb1");
    dueLong(7 * 4096 - 4, "ccc1");
    ErrorSlices x = Check.judged(textOf("ccccccct"), 2);
    Check.due("count(4)", x.count(4), 4000);
    Check.due("fetch", x.fetch(), 0x0728282828282828L);
    Check.due("count(4)", x.count(4), 3993);
    // What was beyond is gone, and what is left goes with the next text.
    Check.due("judge", Check.judge(x, "1"), 2);
    Check.due("count(4)", x.count(4), 3);
    Check.due("written", Check.written(x), "int");
  }

  private static void nothingForFaults() {
    String[] texts = {"1+", "x", Check.overRoom()};
    for (int i = 0; i < texts.length; i++) {
      ErrorSlices x = Check.judged("fn x=>x", 2);
      Check.due("judge", Check.judge(x, texts[i]), -1 - i);
      Check.due("count(4)", x.count(4), 0);
      Check.due("fetch", x.fetch(), 0L);
    }
  }
}
