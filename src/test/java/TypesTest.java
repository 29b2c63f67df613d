/** TYPES: what nodes ask, types that would not be finite, copies of what is behind a let's =, and slices. */
public final class TypesTest {
  public static void main(String[] args) {
    whatNodesAre();
    whatNodesAskOfTheirParts();
    typesAreFinite();
    largeTypesAreFinite();
    copiesAreOnesOwn();
    copiesInCopies();
    namesOfFnsAroundACopy();
    letsWithoutNames();
    variables();
    slicesOfEachKind();
    fromNodeZeroOn();
    slicesWithCopies();
    numbersOfNodes();
    slicesOfFullTexts();
    Check.end();
  }

  private static void whatNodesAre() {
    Check.dueType("1", "int");
    Check.dueType("true", "bool");
    Check.dueType("false", "bool");
    Check.dueType("not", "bool -> bool");
    Check.dueType("fst", "(a, b) -> a");
    Check.dueType("snd", "(a, b) -> b");
    Check.dueType("fn x=>x", "a -> a");
    Check.dueType("fn x=>1", "a -> int");
    Check.dueType("1+2", "int");
    Check.dueType("1<2", "bool");
    Check.dueType("(1,true)", "(int, bool)");
    Check.dueType("(true,1)", "(bool, int)");
    Check.dueType("(1)", "int");
    Check.dueType("((((1)),(true)))", "(int, bool)");
    Check.dueType("not(1<2)", "bool");
    Check.dueType("fst((1,true))", "int");
    Check.dueType("snd((1,true))", "bool");
    Check.dueType("(fn x=>x)(1)", "int");
    Check.dueType("let x=true in 1", "int");
    Check.dueType("if true then 1 else 2", "int");
  }

  private static void whatNodesAskOfTheirParts() {
    Check.dueType("fn x=>x+1", "int -> int");
    Check.dueType("fn x=>1+x", "int -> int");
    Check.dueType("fn x=>x<1", "int -> bool");
    Check.dueType("fn x=>1<x", "int -> bool");
    Check.dueType("fn x=>if x then 1 else 2", "bool -> int");
    Check.dueType("fn x=>if true then x else 2", "int -> int");
    Check.dueType("fn x=>if true then 1 else x", "int -> int");
    Check.dueType("fn x=>fn y=>if true then x else y", "a -> a -> a");
    Check.dueType("fn x=>not(x)", "bool -> bool");
    Check.dueType("fn x=>x(1)", "(int -> a) -> a");
    Check.dueType("fn x=>x(1)+x(2)", "(int -> int) -> int");
    Check.dueType("fn p=>fst(p)+1", "(int, a) -> int");
    Check.dueType("fn p=>snd(p)+1", "(a, int) -> int");
    Check.dueType("fn f=>f(not)", "((bool -> bool) -> a) -> a");
    Check.dueType("fn x=>fn y=>if x<y then x else y", "int -> int -> int");
  }

  private static void typesAreFinite() {
    Check.dueSlice("fn x=>x(x)", ".. x ( x )");
    Check.dueSlice("fn f=>f(f)+1", ".. f ( f ) ..");
    Check.dueSlice("fn x=>if true then x else (x,x)", ".. if .. then x else ( .. , x )");
    Check.dueSlice("fn x=>if true then x else (1,x)", ".. if .. then x else ( .. , x )");
    Check.dueSlice("fn x=>if true then x else fn y=>x", ".. if .. then x else fn y => x");
    Check.dueSlice("fn x=>if true then x else fn y=>if true then y else x",
        ".. if .. then x else fn y => if .. then .. else x");
    Check.dueSlice("let d=fn x=>x(x) in 1", ".. x ( x ) ..");
    Check.dueSlice("fn p=>fst(p)(p)", ".. fst ( p ) ( p )");
    Check.dueSlice("fn x=>fn y=>(x(y),y(x))", ".. x ( y ) .. y ( x ) ..");
    Check.dueSlice("let w=fn x=>x in fn y=>y(w(y))", ".. fn x => x .. y ( w ( y ) )");
    // The same beside it is finite: a copy is a type of its own.
    Check.dueType("let x=fn y=>y in x(x)", "a -> a");
    Check.dueType("fn x=>fn y=>(x(y),x(y))", "(a -> b) -> a -> (b, b)");
    Check.dueType("fn x=>if true then x else fn y=>1", "(a -> int) -> a -> int");
  }

  private static void largeTypesAreFinite() {
    String lets = "let a=fn x=>(x,x) in let b=fn x=>a(a(x)) in let c=fn x=>b(b(x)) in ";
    Check.due("judge", Check.judge(new ErrorSlices(), lets + "c(c(c(c(c(1)))))"), 2);
    Check.due("judge", Check.judge(new ErrorSlices(), lets + "fn z=>if true then c(c(c(z))) else c(c(c(z)))"), 2);
    Check.due("judge", Check.judge(new ErrorSlices(), lets + "fn z=>if true then c(c(c(z))) else z"), 1);
    Check.due("judge", Check.judge(new ErrorSlices(), lets + "if true then c(c(c(1))) else c(c(c(true)))"), 1);
  }

  private static void copiesAreOnesOwn() {
    Check.dueType("let i=fn x=>x in i(i)(1)", "int");
    Check.dueType("let i=fn x=>x in (i(1),i(true))", "(int, bool)");
    Check.dueType("let i=fn x=>x in (i(1),(i(true),i(i)))", "(int, (bool, a -> a))");
    Check.dueType("let f=fst in (f((1,true)),f((true,1)))", "(int, bool)");
    Check.dueType("let p=(fn x=>x,1) in (fst(p)(true),fst(p)(snd(p)))", "(bool, int)");
    // The name of a fn has one type: no copy.
    Check.dueSlice("(fn i=>(i(1),i(true)))(fn x=>x)", ".. i ( 1 ) .. i ( true ) ..");
  }

  private static void copiesInCopies() {
    Check.dueType("let i=fn x=>x in let j=i in (j(1),j(true))", "(int, bool)");
    Check.dueType("let i=fn x=>x in let j=i(i) in (j(1),j(true))", "(int, bool)");
    Check.dueType("let f=let g=fn x=>x in (g(1),g) in (snd(f)(true),snd(f)(fst(f)))", "(bool, int)");
    Check.dueType("let f=fn x=>let g=fn y=>(x,y) in g in (f(1)(true),f(true)(1))",
        "((int, bool), (bool, int))");
    Check.dueType("let f=fn x=>let g=fn y=>(x,y) in (g(1),g(true)) in (f(1),f(true))",
        "(((int, int), (int, bool)), ((bool, int), (bool, bool)))");
    Check.dueType("let f=fn x=>let g=fn y=>let h=fn z=>(x,(y,z)) in h in g in (f(1)(true)(1),f(true)(1)(true))",
        "((int, (bool, int)), (bool, (int, bool)))");
    Check.dueType("let a=fn x=>(x,x) in let b=fn x=>a(a(x)) in b(1)", "((int, int), (int, int))");
    Check.dueSlice("let a=true in let b=a in let c=b in c+1", ".. true .. a .. b .. c + ..");
  }

  private static void namesOfFnsAroundACopy() {
    Check.dueType("fn x=>let y=x in (y,y)", "a -> (a, a)");
    Check.dueType("fn x=>let y=fn z=>(x,z) in (y(1),y(true))", "a -> ((a, int), (a, bool))");
    Check.dueType("fn x=>let y=fn z=>x+z in (y(1),x)", "int -> (int, int)");
    Check.dueSlice("fn x=>let y=x in (y+1,not(y))", ".. x .. y + .. not ( y ) ..");
    Check.dueSlice("fn x=>let y=fn z=>x in (y(1)+1,not(y(2)))",
        ".. fn z => x .. y ( .. ) + .. not ( y ( .. ) ) ..");
    // In a copy the fns of the copy, around it those of the text.
    Check.dueSlice("fn g=>let h=fn x=>g(x) in (h(1),h(true))", ".. fn x => g ( x ) .. h ( 1 ) .. h ( true ) ..");
    Check.dueNodes("fn g=>let h=fn x=>g(x) in (h(1),h(true))", "0011110111111");
    Check.dueType("fn g=>let h=fn x=>(g,x) in (h(1),h(true))", "a -> ((a, int), (a, bool))");
    Check.dueSlice("let f=fn x=>let g=x in (g+1,not(g)) in 1", ".. x .. g + .. not ( g ) ..");
  }

  private static void letsWithoutNames() {
    // What is behind = stands in the text, whether or not a name means it.
    Check.dueSlice("let x=1+true in 2", ".. + true ..");
    Check.dueSlice("let x=fn y=>y(y) in 2", ".. y ( y ) ..");
    Check.dueSlice("fn y=>let x=y+1 in not(y)", ".. y + .. not ( y )");
    Check.dueType("fn y=>let x=y+1 in y", "int -> int");
  }

  private static void variables() {
    Check.dueVariables("1", 1);
    Check.dueVariables("(1)", 1);
    Check.dueVariables("(1,2)", 3);
    Check.dueVariables("fn x=>x", 3);
    Check.dueVariables("fn x=>fn y=>x", 5);
    Check.dueVariables("let x=1 in 2", 3);
    Check.dueVariables("let x=1 in x", 4);
    Check.dueVariables("let x=1 in x+x", 7);
    Check.dueVariables("let x=fn y=>y in x", 8);
    Check.dueVariables("let x=fn y=>y in x(x)", 13);
    Check.dueVariables("let a=1 in let b=a in b", 8);
    Check.dueVariables("let a=let b=1 in b in a", 10);
    Check.dueVariables("fn x=>let y=x in (y,y)", 9);
    Check.due("variables of a text without type", Check.judged("let x=1 in x(x)", 1).count(3), 7);
  }

  private static void slicesOfEachKind() {
    Check.dueSlice("1+true", ".. + true");
    Check.dueSlice("true+1", "true + ..");
    Check.dueSlice("1<true", ".. < true");
    Check.dueSlice("false<1", "false < ..");
    Check.dueSlice("not+1", "not + ..");
    Check.dueSlice("1+fst", ".. + fst");
    Check.dueSlice("1+snd", ".. + snd");
    Check.dueSlice("1(2)", "1 ( .. )");
    Check.dueSlice("true(2)", "true ( .. )");
    Check.dueSlice("not(1)", "not ( 1 )");
    Check.dueSlice("fst(1)", "fst ( 1 )");
    Check.dueSlice("snd(not)", "snd ( not )");
    Check.dueSlice("(1,2)(3)", "( .. , .. ) ( .. )");
    Check.dueSlice("(1,2)+3", "( .. , .. ) + ..");
    Check.dueSlice("1+(fn x=>1)", ".. + .. fn x => ..");
    Check.dueSlice("if 1 then 2 else 3", "if 1 then .. else ..");
    Check.dueSlice("if true then 2 else false", "if .. then 2 else false");
    Check.dueSlice("1+(if true then 2<3 else 4<5)", ".. + .. if .. then .. else .. < ..");
    Check.dueSlice("1+(let x=2 in true)", ".. + .. let x = .. in true ..");
    Check.dueSlice("let x=true in 1+x", ".. true .. + x");
    Check.dueSlice("fn x=>(x+1,not(x))", ".. x + .. not ( x ) ..");
    Check.dueSlice("(1<2)+3", ".. < .. + ..");
    Check.dueSlice("not(1+2)", "not ( .. + .. )");
    Check.dueSlice("fst((1,2))(3)", "fst ( ( 1 , .. ) ) ( .. )");
    Check.dueSlice("snd((1,2))(3)", "snd ( ( .. , 2 ) ) ( .. )");
  }

  private static void fromNodeZeroOn() {
    // Of several slices the one of the last nodes is left, as the first go first.
    Check.dueSlice("true+false", ".. + false");
    Check.dueSlice("true+1+false", ".. + false");
    Check.dueSlice("(1+true,not(2))", ".. not ( 2 ) ..");
    Check.dueSlice("(not(2),1+true)", ".. + true ..");
    Check.dueSlice("1<2+true", ".. + true");
    Check.dueSlice("let x=1+true in x(2)", ".. + .. x ( .. )");
    Check.dueSlice("if 1 then 2 else true", "if .. then 2 else true");
    Check.dueSlice("fn x=>(x+1,(not(x),x(1)))", ".. not ( x ) .. x ( .. ) ..");
    Check.dueNodes("true+false", "011");
    Check.dueNodes("if 1 then 2 else true", "1011");
    Check.dueNodes("(1+true,not(2))", "0000111");
  }

  private static void slicesWithCopies() {
    Check.dueSlice("let x=1 in x(2)", ".. 1 .. x ( .. )");
    Check.dueSlice("let x=true in let y=x in y+1", ".. true .. x .. y + ..");
    // A node is left out in the text and in all copies, or in none.
    Check.dueSlice("let f=fn x=>x+1 in (f(true),f(false))", ".. fn x => x + .. f ( false ) ..");
    Check.dueNodes("let f=fn x=>x+1 in (f(true),f(false))", "011100000111");
    Check.dueSlice("let f=fn x=>x+true in (f(1),f(2))", ".. + true ..");
    Check.dueSlice("let i=fn x=>x in (i(1)+1,i(true)+1)", ".. fn x => x .. i ( true ) + ..");
  }

  private static void numbersOfNodes() {
    // A call is numbered by its bracket, a sum by its sign, a pair by the bracket ahead of its parts.
    Check.dueNodes("1(2)", "110");
    Check.dueNodes("1+true", "011");
    Check.dueNodes("(1,2)+3", "10010");
    Check.dueNodes("((1),2)(3)", "10010");
    Check.dueNodes("(((1),2))(3)", "10010");
    Check.dueNodes("let x=1 in not(x)", "01111");
    Check.dueNodes("fn x=>x(x)", "0111");
    Check.dueNodes("if 1 then 2 else 3", "1100");
    Check.dueNodes("if true then 2 else 3(4)", "000110");
    Check.dueNodes("1+2<3+true", "0000011");
    Check.dueNodes("(1+2)(3)", "01010");
    Check.dueNodes("let x=1 in let y=true in x+y", "0001011");
  }

  private static void slicesOfFullTexts() {
    ErrorSlices last = Check.judged("fn x=>" + Check.ones(49) + "+true", 1);
    Check.due("nodes", last.count(1), 100);
    Check.due("nodes in the slice", last.count(2), 2);
    Check.due("slice", Check.written(last), ".. + true");
    ErrorSlices first = Check.judged("if 1 then " + Check.ones(24) + " else " + Check.ones(26), 1);
    Check.due("nodes", first.count(1), 100);
    Check.due("slice", Check.written(first), "if 1 then .. else ..");
    // Every node of a long way is in the slice.
    StringBuilder way = new StringBuilder("let a=true in ");
    StringBuilder due = new StringBuilder(".. true .. ");
    for (int i = 1; i < 18; i++) {
      way.append("let " + (char) ('a' + i) + "=" + (char) ('a' + i - 1) + " in ");
      due.append((char) ('a' + i - 1)).append(" .. ");
    }
    Check.dueSlice(way + "1+r", due + "+ r");
  }
}
