import java.util.ArrayList;
import java.util.List;

/** Terms, the grammar and fault 1: which tokens go on with a text, and where those that do not are refused. */
public final class GrammarTest {
  private static final List<String> ATOMS = List.of("x", "1", "true", "false", "not", "fst", "snd", "(");
  private static final List<String> EXPS = with(ATOMS, "fn", "let", "if");
  private static final List<String> OTHERS = List.of("in", "then", "else", "=>", "=", ")", ",", "+", "<", "$", ">");
  // What goes on behind an exp that is a sum, and behind one that has its <.
  private static final List<String> SUM = List.of("+", "<", "(");
  private static final List<String> COMPARED = List.of("+", "(");

  public static void main(String[] args) {
    beginnings();
    insideWords();
    behindExps();
    endings();
    firstOneCounts();
    shapes();
    Check.end();
  }

  private static List<String> with(List<String> some, String... more) {
    List<String> all = new ArrayList<>(some);
    all.addAll(List.of(more));
    return all;
  }

  /** Each token behind the start of a text: it goes on with it, or is the fault itself. */
  private static void dueNext(String start, List<String> goOn) {
    for (String token : with(EXPS, OTHERS.toArray(new String[0]))) {
      String text = start + " " + token;
      if (goOn.contains(token)) {
        ErrorSlices slices = new ErrorSlices();
        boolean atEnd = Check.judge(slices, text) != -1 || slices.place() == text.length();
        Check.due("that " + token + " goes on with " + start, atEnd, true);
      } else {
        Check.dueSyntax(text, start.length() + 1);
        Check.dueSyntax(text + " )", start.length() + 1);
      }
    }
  }

  private static void beginnings() {
    String[] exps = {"", "fn x=>", "let x=", "let x=1 in", "if", "if 1 then", "if 1 then 1 else", "(", "(1,", "1(",
        "not((", "1+1+(", "1<("};
    for (String start : exps) {
      dueNext(start, EXPS);
    }
    String[] atoms = {"1+", "1+1+", "1<", "1+1<", "1<1+", "1(1)+", "(1)<", "fn x=>1+"};
    for (String start : atoms) {
      dueNext(start, ATOMS);
    }
  }

  private static void insideWords() {
    dueNext("fn", List.of("x"));
    dueNext("fn x", List.of("=>"));
    dueNext("let", List.of("x"));
    dueNext("let x", List.of("="));
    dueNext("(1,fn", List.of("x"));
    dueNext("1(let x", List.of("="));
  }

  private static void behindExps() {
    String[] sums = {"1", "x", "not", "(1)", "(1,2)", "1(2)", "1(2)(3)", "1+1", "1+1+1", "fn x=>1", "let x=1 in 1",
        "if 1 then 1 else 1"};
    for (String sum : sums) {
      dueNext(sum, SUM);
      dueNext("let x=" + sum, with(SUM, "in"));
      dueNext("if " + sum, with(SUM, "then"));
      dueNext("if 1 then " + sum, with(SUM, "else"));
      dueNext("(" + sum, with(SUM, ")", ","));
      dueNext("(1," + sum, with(SUM, ")"));
      dueNext("1(" + sum, with(SUM, ")"));
      dueNext("fn x=>" + sum, SUM);
    }
    String[] compared = {"1<1", "1+1<1", "1<1+1", "fn x=>1<1", "1<1(1)"};
    for (String exp : compared) {
      dueNext(exp, COMPARED);
      dueNext("let x=" + exp, with(COMPARED, "in"));
      dueNext("if " + exp, with(COMPARED, "then"));
      dueNext("if 1 then " + exp, with(COMPARED, "else"));
      dueNext("(" + exp, with(COMPARED, ")", ","));
      dueNext("(1," + exp, with(COMPARED, ")"));
      dueNext("1(" + exp, with(COMPARED, ")"));
    }
  }

  private static void endings() {
    String[] starts = {"", "fn", "fn x", "fn x=>", "let", "let x", "let x=", "let x=1", "let x=1 in", "if", "if 1",
        "if 1 then", "if 1 then 1", "if 1 then 1 else", "1+", "1<", "(", "(1", "(1,", "(1,2", "1(", "1(2"};
    for (String start : starts) {
      Check.dueSyntax(start, start.length());
      // The text's end is behind its blanks.
      Check.dueSyntax(start + " ", start.length() + 1);
      Check.dueSyntax(start + "\n \n", start.length() + 3);
      Check.dueSyntax("(" + start, start.length() + 1);
    }
  }

  private static void firstOneCounts() {
    Check.dueSyntax("1 $ )", 2);
    Check.dueSyntax("1 ) $", 2);
    Check.dueSyntax("1+ ) 12345678901", 3);
    Check.dueSyntax("1+ 12345678901 )", 3);
    Check.dueSyntax("(1,2,3", 4);
    Check.dueSyntax("(1,2,3,4)", 4);
    Check.dueSyntax("not(1,2)", 5);
    Check.dueSyntax("not()", 4);
    Check.dueSyntax("()", 1);
    Check.dueSyntax("(,1)", 1);
    Check.dueSyntax("(1,)", 3);
    Check.dueSyntax("(1))", 3);
    Check.dueSyntax("1<2<3", 3);
    Check.dueSyntax("1+2<3+4<5", 7);
    Check.dueSyntax("1+fn x=>x", 2);
    Check.dueSyntax("1<let x=1 in x", 2);
    Check.dueSyntax("fn x=>1 in 2", 8);
    Check.dueSyntax("let x=1 in 2 in 3", 13);
    Check.dueSyntax("if true then 1 else 2 else 3", 22);
  }

  private static void shapes() {
    // Sums and calls go from the left; fn, let and if reach as far as they can.
    Check.dueType("fn x=>x+1<2", "int -> bool");
    Check.dueType("(fn x=>x)(1)", "int");
    Check.dueSlice("fn x=>x(x)", ".. x ( x )");
    Check.dueType("let x=1 in x+1<x", "bool");
    Check.dueType("if true then 1 else 2+3", "int");
    Check.dueType("(if true then 1 else 2)<3", "bool");
    Check.dueType("if if true then false else true then fn x=>1 else fn y=>2", "a -> int");
    Check.dueType("let x=let y=1 in y in let z=x in z", "int");
    Check.dueType("1+fst((2,3))+4<5+6", "bool");
    Check.dueType("(fn x=>fn y=>(x,y))(1)(true)", "(int, bool)");
    Check.dueType("fst((not,1))(true)", "bool");
    Check.dueType("1<2+3", "bool");
    Check.dueNodes("1+true+2", "01100");
    Check.dueNodes("1+2+true", "00011");
    Check.dueNodes("1(2)(3)", "11000");
    Check.dueNodes("not(true)(3)", "11010");
  }
}
