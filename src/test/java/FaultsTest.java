/** Terms, FAULTS and promises 3 and 4: names out of scope, and which of several faults counts. */
public final class FaultsTest {
  public static void main(String[] args) {
    namesOfNothing();
    scopeOfFn();
    scopeOfLet();
    innermostCounts();
    firstNameCounts();
    namesOfBindersAreNoUses();
    firstKindCounts();
    answersOfFaults();
    Check.end();
  }

  private static void dueName(String text, int place) {
    Check.dueFault(text, -2, place);
  }

  private static void namesOfNothing() {
    dueName("x", 0);
    dueName(" \nx", 2);
    dueName("(x)", 1);
    dueName("1+x", 2);
    dueName("1<x", 2);
    dueName("not(x)", 4);
    dueName("x(1)", 0);
    dueName("(x,1)", 1);
    dueName("(1,x)", 3);
    dueName("if x then 1 else 2", 3);
    dueName("if 1 then x else 2", 10);
    dueName("if 1 then 2 else x", 17);
    dueName("fn x=>y", 6);
    dueName("let x=y in 1", 6);
    dueName("let x=1 in y", 11);
  }

  private static void scopeOfFn() {
    Check.dueType("fn x=>x", "a -> a");
    Check.dueType("fn x=>fn y=>x", "a -> b -> a");
    Check.dueType("fn x=>(fn y=>y)(x)", "a -> a");
    dueName("(fn x=>x)(x)", 10);
    dueName("(fn x=>x,x)", 9);
    dueName("fn x=>(fn y=>y)(y)", 16);
    dueName("x(fn x=>x)", 0);
    dueName("if true then fn x=>x else x", 26);
  }

  private static void scopeOfLet() {
    Check.dueType("let x=1 in x", "int");
    Check.dueType("let x=1 in let y=x in x+y", "int");
    dueName("let x=x in 1", 6);
    dueName("let x=x in x", 6);
    dueName("let f=fn n=>f(n) in f", 12);
    dueName("(let x=1 in x)+x", 15);
    dueName("let x=let y=1 in y in y", 22);
    dueName("let x=fn y=>y in y", 17);
    dueName("let y=(let x=1 in x) in x", 24);
    Check.dueType("fn x=>let x=(x,1) in x", "a -> (a, int)");
    Check.dueType("let x=1 in let x=(x,x) in x", "(int, int)");
  }

  private static void innermostCounts() {
    Check.dueType("fn x=>fn x=>x+1", "a -> int -> int");
    Check.dueType("fn x=>(fn x=>x+1,not(x))", "bool -> (int -> int, bool)");
    Check.dueType("let x=1 in let x=true in x", "bool");
    Check.dueType("let x=1 in (let x=true in x,x)", "(bool, int)");
    Check.dueType("let x=1 in fn x=>x", "a -> a");
    Check.dueType("fn x=>let x=1 in x", "a -> int");
    Check.dueType("fn x=>fn y=>fn x=>fn y=>(x+1,not(y))", "a -> b -> int -> bool -> (int, bool)");
    Check.dueType("let x=true in let y=x in let x=1 in (x,y)", "(int, bool)");
    // A copy's names mean what they mean where the let stands.
    Check.dueType("fn x=>let y=x+1 in fn x=>(not(x),y)", "int -> bool -> (bool, int)");
    Check.dueType("let a=1 in let f=fn z=>a in let a=true in (f(a),a)", "(int, bool)");
  }

  private static void firstNameCounts() {
    dueName("x+y", 0);
    dueName("f(x)", 0);
    dueName("fn x=>y+z", 6);
    dueName("fn a=>(a,(b,c))", 10);
    dueName("let a=b in c", 6);
    dueName("let a=1 in (b,c)", 12);
    dueName("(fn x=>x)(y)+x", 10);
    dueName("1+true+x+y", 7);
    // The first in the text, not the outermost.
    dueName("(((x)))+y", 3);
    dueName("if (fn z=>y)(1) then x else x", 10);
  }

  private static void namesOfBindersAreNoUses() {
    Check.dueType("fn x=>1", "a -> int");
    Check.dueType("let x=1 in 2", "int");
    dueName("let x=1 in fn y=>z", 17);
    dueName("fn y=>let x=1 in z", 17);
  }

  private static void firstKindCounts() {
    Check.dueSyntax("x+y)", 3);
    Check.dueSyntax("x $", 2);
    Check.dueSyntax("1(1)+x+", 7);
    Check.dueSyntax("x+12345678901", 2);
    Check.dueSyntax("x+" + "(".repeat(20), 22);
    Check.dueSyntax("x+" + Check.ones(50), 2 + 98);
    dueName("1+true+x", 7);
    dueName("1(2)(x)", 5);
    String over = Check.overRoom();
    dueName(over.replace("in b", "in c"), over.indexOf("in b") + 3);
    dueName(over + "+c", over.length() + 1);
    Check.dueSyntax(over + ")", over.length());
    Check.dueSyntax(over + "+c)", over.length() + 2);
    Check.dueFault(over.replace("true", "1"), -3, over.length() - 3);
  }

  private static void answersOfFaults() {
    Check.due("nodes with fault 1", Check.judged("(1,x", -1).count(1), 0);
    Check.due("nodes with fault 2", Check.judged("(1,x)", -2).count(1), 3);
    Check.due("nodes with fault 3", Check.judged(Check.overRoom(), -3).count(1), 96);
  }
}
