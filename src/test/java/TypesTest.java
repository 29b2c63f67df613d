/** Promises 3, 5 and 6: types, slices, and what is written for them. */
public final class TypesTest {
  public static void main(String[] args) {
    nodesAndTheirTypes();
    howTypesAreWritten();
    copies();
    slices();
    whatStandsBetween();
    numbersOfNodes();
    infiniteTypes();
    lettersAfterZ();
    fourThousandBytes();
    Check.end();
  }

  private static void nodesAndTheirTypes() {
    Check.dueType("1", "int");
    Check.dueType("true", "bool");
    Check.dueType("false", "bool");
    Check.dueType("not", "bool -> bool");
    Check.dueType("fst", "(a, b) -> a");
    Check.dueType("snd", "(a, b) -> b");
    Check.dueType("fn x=>x", "a -> a");
    Check.dueType("1+2", "int");
    Check.dueType("1<2", "bool");
    Check.dueType("1+2<3+4", "bool");
    Check.dueType("(1,true)", "(int, bool)");
    Check.dueType("(1)", "int");
    Check.dueType("((((1)),(true)))", "(int, bool)");
    Check.dueType("not(1<2)", "bool");
    Check.dueType("fst((1,true))", "int");
    Check.dueType("snd((1,true))", "bool");
    Check.dueType("(fn x=>x)(1)", "int");
    Check.dueType("((fn x=>fn y=>(y,x))(1))(true)", "(bool, int)");
    Check.dueType("(fn x=>fn y=>(y,x))(1)(true)", "(bool, int)");
    Check.dueType("let x=1 in x", "int");
    Check.dueType("if true then 1 else 2", "int");
    Check.dueType("fn x=>fn y=>if x<y then x else y", "int -> int -> int");
    Check.dueType("fn x=>if x then x else x", "bool -> bool");
    Check.dueType("fn x=>x(1)+x(2)", "(int -> int) -> int");
  }

  private static void howTypesAreWritten() {
    Check.dueType("fn f=>fn x=>f(x)", "(a -> b) -> a -> b");
    Check.dueType("fn f=>fn g=>fn x=>f(g(x))", "(a -> b) -> (c -> a) -> c -> b");
    Check.dueType("fn f=>f(fn x=>x)", "((a -> a) -> b) -> b");
    Check.dueType("fn f=>f(fn g=>g(1))", "(((int -> a) -> a) -> b) -> b");
    Check.dueType("fn x=>fn y=>fn z=>(z,(y,x))", "a -> b -> c -> (c, (b, a))");
    Check.dueType("(fn x=>x,fn x=>x)", "(a -> a, b -> b)");
    Check.dueType("fn p=>fst(p)(snd(p))", "(a -> b, a) -> b");
    Check.dueType("fn p=>(snd(p),fst(p))", "(a, b) -> (b, a)");
    Check.dueType("fn x=>(x,fn y=>(y,x))", "a -> (a, b -> (b, a))");
    Check.dueType("(fn f=>fn x=>f(f(x)))(fn x=>(1,2))", "(int, int) -> (int, int)");
  }

  private static void copies() {
    Check.dueType("let i=fn x=>x in i(i)(1)", "int");
    Check.dueType("let i=fn x=>x in (i(1),(i(true),i(i)))", "(int, (bool, a -> a))");
    Check.dueType("fn x=>let y=x in (y,y)", "a -> (a, a)");
    Check.dueType("fn x=>let y=fn z=>(x,z) in (y(1),y(true))", "a -> ((a, int), (a, bool))");
    Check.dueType("let f=fn x=>let g=fn y=>(x,y) in g in (f(1)(true),f(true)(1))",
        "((int, bool), (bool, int))");
    Check.dueType("let f=fn x=>let g=fn y=>(x,y) in (g(1),g(true)) in (f(1),f(true))",
        "(((int, int), (int, bool)), ((bool, int), (bool, bool)))");
    Check.dueType("let f=fst in (f((1,true)),f((true,1)))", "(int, bool)");
    Check.dueSlice("(fn i=>(i(1),i(true)))(fn x=>x)", ".. i ( 1 ) .. i ( true ) ..");
    Check.dueSlice("fn x=>let y=x in (y+1,not(y))", ".. x .. y + .. not ( y ) ..");
    Check.dueVariables("let x=1 in 2", 3);
    Check.dueVariables("let x=1 in x", 4);
    Check.dueVariables("let x=fn y=>y in x", 8);
    Check.dueVariables("let x=fn y=>y in x(x)", 13);
    Check.dueVariables("let a=1 in let b=a in b", 8);
    Check.dueVariables("let a=let b=1 in b in a", 10);
  }

  private static void slices() {
    Check.dueSlice("1+true", ".. + true");
    Check.dueSlice("true+1", "true + ..");
    Check.dueSlice("true+false", ".. + false");
    Check.dueSlice("1(2)", "1 ( .. )");
    Check.dueSlice("not(1)", "not ( 1 )");
    Check.dueSlice("fst(1)", "fst ( 1 )");
    Check.dueSlice("(1,2)(3)", "( .. , .. ) ( .. )");
    Check.dueSlice("if 1 then 2 else 3", "if 1 then .. else ..");
    Check.dueSlice("if true then 2 else false", "if .. then 2 else false");
    Check.dueSlice("1<2+true", ".. + true");
    Check.dueSlice("(1<2)+3", ".. < .. + ..");
    Check.dueSlice("fn x=>(x+1,not(x))", ".. x + .. not ( x ) ..");
    Check.dueSlice("let x=1 in x(2)", ".. 1 .. x ( .. )");
    Check.dueSlice("let x=1+true in x(2)", ".. + .. x ( .. )");
    Check.dueSlice("let x=true in let y=x in y+1", ".. true .. x .. y + ..");
    Check.dueSlice("(1+true,not(2))", ".. not ( 2 ) ..");
    ErrorSlices x = Check.judged("fn g=>let h=fn x=>g(x) in (h(1),h(true))", 1);
    Check.due("nodes in the slice", x.count(2), 10);
    Check.due("nodes", x.count(1), 13);
    for (int k = 0; k < 13; k++) {
      Check.due("isIn(" + k + ")", x.isIn(k), k != 0 && k != 1 && k != 6);
    }
  }

  private static void whatStandsBetween() {
    Check.dueSlice("1 + \n true", ".. + true");
    Check.dueSlice("(1)(2)", ".. 1 .. ( .. )");
    Check.dueSlice("((1)+(true))", ".. + .. true ..");
    Check.dueSlice("not ( 1 )", "not ( 1 )");
    Check.dueSlice("not((1))", "not ( .. 1 .. )");
    Check.dueSlice("(not(1))", ".. not ( 1 ) ..");
    Check.dueSlice("fn longername=>longername(longername)", ".. longername ( longername )");
    Check.dueSlice("1+not", ".. + not");
    Check.dueSlice("012345678(1)", "012345678 ( .. )");
  }

  private static void numbersOfNodes() {
    // A call is numbered by its bracket, a sum by its sign, a pair by the bracket ahead of its parts.
    dueNodes("1(2)", true, true, false);
    dueNodes("1+true", false, true, true);
    dueNodes("(1,2)+3", true, false, false, true, false);
    dueNodes("((1),2)(3)", true, false, false, true, false);
    dueNodes("let x=1 in not(x)", false, true, true, true, true);
    dueNodes("fn x=>x(x)", false, true, true, true);
    dueNodes("if 1 then 2 else 3", true, true, false, false);
  }

  private static void dueNodes(String text, boolean... due) {
    ErrorSlices x = Check.judged(text, 1);
    Check.due("nodes of " + text, x.count(1), due.length);
    int inSlice = 0;
    for (int k = 0; k < due.length; k++) {
      Check.due("isIn(" + k + ") of " + text, x.isIn(k), due[k]);
      inSlice += due[k] ? 1 : 0;
    }
    Check.due("nodes in the slice of " + text, x.count(2), inSlice);
  }

  private static void infiniteTypes() {
    Check.dueSlice("fn x=>x(x)", ".. x ( x )");
    Check.dueSlice("fn f=>f(f)+1", ".. f ( f ) ..");
    Check.dueSlice("fn x=>if true then x else (x,x)", ".. if .. then x else ( .. , x )");
    Check.dueSlice("let d=fn x=>x(x) in 1", ".. x ( x ) ..");
    Check.dueSlice("fn p=>fst(p)(p)", ".. fst ( p ) ( p )");
  }

  private static void lettersAfterZ() {
    String tree = Check.pairs("i", 27);
    Check.dueType("let i=fn x=>x in " + tree, lettered(Check.pairs("?", 27)));
    // Names of a let of 27 functions: 55 letters with one more.
    Check.dueType("let i=fn x=>x in let t=" + tree + " in (t,(t,i))",
        lettered("(" + Check.pairs("?", 27) + ",(" + Check.pairs("?", 27) + ",?))"));
    Check.dueType("let i=fn x=>x in let t=" + tree + " in snd((t,(snd((1,t)),i)))",
        lettered("(" + Check.pairs("?", 27) + ",?)"));
  }

  /** Pairs of functions, each from a letter of its own to that. */
  private static String lettered(String pairs) {
    StringBuilder due = new StringBuilder(pairs.replace(",", ", "));
    for (int i = 0; due.indexOf("?") >= 0; i++) {
      String letter = (char) ('a' + i % 26) + (i < 26 ? "" : String.valueOf(i / 26));
      int at = due.indexOf("?");
      due.replace(at, at + 1, letter + " -> " + letter);
    }
    return due.toString();
  }

  private static String doubled(int times, String leaf) {
    return times == 0 ? leaf : "(" + doubled(times - 1, leaf) + ", " + doubled(times - 1, leaf) + ")";
  }

  private static void fourThousandBytes() {
    String lets = "let a=fn x=>(x,x) in let b=fn x=>a(a(x)) in let c=fn x=>b(b(x)) in ";
    // 572 ints in pairs are 4000 bytes: 512, 32, 16, 8 and 4 of them.
    String text = lets + "(c(c(a(1))),(c(a(1)),(c(1),(b(a(1)),b(LAST)))))";
    String due = "(" + doubled(9, "int") + ", (" + doubled(5, "int") + ", (" + doubled(4, "int") + ", ("
        + doubled(3, "int") + ", " + doubled(2, "LAST") + "))))";
    Check.due("ints of 4000 bytes", due.replace("LAST", "int").length(), 4000);
    dueLong(text.replace("LAST", "1"), due.replace("LAST", "int"));
    dueLong(text.replace("LAST", "true"), due.replace("LAST", "bool"));
    dueLong(lets + "c(c(b(1)))", doubled(10, "int"));
    dueLong(lets + "c(c(c(1)))", doubled(12, "int"));
    dueLong(lets + "c(c(c(c(c(fn x=>x)))))", "(".repeat(7) + doubled(13, "a -> a"));
  }

  private static void dueLong(String text, String due) {
    ErrorSlices x = Check.judged(text, 2);
    Check.due("count(4) of " + text, x.count(4), 4000);
    Check.due("written for " + text, Check.written(x), due.substring(0, 4000));
    Check.due("count(4) at the end", x.count(4), 0);
  }
}
