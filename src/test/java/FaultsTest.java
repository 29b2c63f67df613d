/** Promises 3 and 4: the three faults and their places. */
public final class FaultsTest {
  public static void main(String[] args) {
    tokens();
    grammar();
    hundredNodes();
    twentyExps();
    names();
    room();
    firstFaultCounts();
    Check.end();
  }

  private static void dueSyntax(String text, int place) {
    Check.dueFault(text, -1, place);
  }

  private static void tokens() {
    Check.dueType("fn abcdefghij=>abcdefghij+1", "int -> int");
    Check.dueType("fn a234567890=>a234567890+1", "int -> int");
    dueSyntax("fn abcdefghijk=>1", 3);
    dueSyntax("fn a2345678901=>1", 3);
    dueSyntax("fn x=>abcdefghijk", 6);
    Check.dueType("123456789", "int");
    Check.dueType("000000000", "int");
    dueSyntax("1234567890", 0);
    dueSyntax("1+1234567890", 2);
    dueSyntax("1x", 0);
    dueSyntax("1 +12fn", 3);
    dueSyntax("1X", 1);
    dueSyntax("fn xY=>1", 4);
    dueSyntax("X", 0);
    dueSyntax("_", 0);
    dueSyntax("1\t", 1);
    dueSyntax("1\r", 1);
    dueSyntax("1\0", 1);
    dueSyntax("-1", 0);
    dueSyntax("1>2", 1);
    dueSyntax("fn x= >1", 4);
    dueSyntax("let x=>1 in x", 5);
    dueSyntax("let x==1 in x", 6);
    Check.dueType("let\nx\n=\n1\nin x", "int");
    Check.dueType("\n (1) \n", "int");
    Check.dueType("fn fn1=>fn inx=>fn nott=>fn1+inx", "int -> int -> a -> int");
    Check.dueType("fn f=>fn n=>fn fals=>fn falsee=>1", "a -> b -> c -> d -> int");
  }

  private static void grammar() {
    dueSyntax("", 0);
    dueSyntax(" \n ", 3);
    String[] words = {"in", "then", "else", "=>", "=", ")", ",", "+", "<", "$"};
    for (String word : words) {
      dueSyntax(word, 0);
      dueSyntax("1+" + word, 2);
      dueSyntax("(" + word, 1);
    }
    String[] reserved = {"fn", "let", "in", "if", "then", "else", "true", "false", "not", "fst", "snd"};
    for (String word : reserved) {
      dueSyntax("fn " + word + "=>1", 3);
      dueSyntax("let " + word + "=1 in 2", 4);
    }
    dueSyntax("fn", 2);
    dueSyntax("fn ", 3);
    dueSyntax("fn x", 4);
    dueSyntax("fn x=>", 6);
    dueSyntax("fn 1=>2", 3);
    dueSyntax("fn x 2", 5);
    dueSyntax("let x=1", 7);
    dueSyntax("let x=1 in", 10);
    dueSyntax("let x=1 then 2", 8);
    dueSyntax("let x 1", 6);
    dueSyntax("if 1 else", 5);
    dueSyntax("if 1 then 2", 11);
    dueSyntax("if 1 then 2 in", 12);
    dueSyntax("if 1 then 2 else", 16);
    dueSyntax("1 2", 2);
    dueSyntax("1 fn x=>x", 2);
    dueSyntax("1+fn x=>x", 2);
    dueSyntax("1+if true then 1 else 2", 2);
    dueSyntax("1<let x=1 in x", 2);
    dueSyntax("1<2<3", 3);
    dueSyntax("1+2<3+4<5", 7);
    dueSyntax("1+", 2);
    dueSyntax("1+ ", 3);
    dueSyntax("not()", 4);
    dueSyntax("not(1,2)", 5);
    dueSyntax("not(1", 5);
    dueSyntax("()", 1);
    dueSyntax("(1,2,3)", 4);
    dueSyntax("(1,)", 3);
    dueSyntax("(1", 2);
    dueSyntax("(1,2", 4);
    dueSyntax("1)", 1);
    dueSyntax("(1))", 3);
    dueSyntax("1,2", 1);
    dueSyntax("1 in 2", 2);
  }

  private static void hundredNodes() {
    ErrorSlices x = Check.judged("fn x=>" + Check.ones(50), 2);
    Check.due("nodes", x.count(1), 100);
    int ones = 6 + 99;
    dueSyntax("fn x=>" + Check.ones(50) + "+1", ones);
    dueSyntax("fn x=>" + Check.ones(50) + " <1", ones + 1);
    dueSyntax("fn x=>" + Check.ones(50) + "(1)", ones);
    dueSyntax("fn x=>fn y=>" + Check.ones(50), ones + 5);
    dueSyntax("(fn x=>" + Check.ones(50) + " , 1)", ones + 2);
    dueSyntax("(fn x=>" + Check.ones(50) + ")(1)", ones + 2);
    // Brackets are no node: the next one begins in them.
    dueSyntax(Check.ones(50) + "+((1))", 102);
    // The pair counts from its comma on, though its number is a lower one.
    dueSyntax(Check.ones(49) + "+(1,1)", 101);
    dueSyntax(Check.ones(49) + "<1+1", 100);
    ErrorSlices y = Check.judged("fn x=>" + Check.ones(48) + "<fst((1,1))", -1);
    Check.due("place of the pair's comma", y.place(), 6 + 95 + 7);
    Check.due("nodes with fault 1", y.count(1), 0);
    String[] begun = {"fn", "let", "if", "not", "x"};
    for (String word : begun) {
      String text = "(fn x=>" + Check.ones(49) + ",fn y=>" + word + " ";
      dueSyntax(text, 7 + 97 + 1 + 6);
    }
  }

  private static void twentyExps() {
    Check.dueType("(".repeat(19) + "1" + ")".repeat(19), "int");
    dueSyntax("(".repeat(20) + "1" + ")".repeat(20), 20);
    dueSyntax("(".repeat(20), 20);
    dueSyntax("(".repeat(19), 19);
    StringBuilder nineteen = new StringBuilder();
    StringBuilder type = new StringBuilder();
    for (int i = 0; i < 19; i++) {
      nineteen.append("fn x=>");
      type.append((char) ('a' + i)).append(" -> ");
    }
    Check.dueType(nineteen + "1", type + "int");
    Check.dueType(nineteen + "1+1", type + "int");
    dueSyntax(nineteen + "fn x=>1", 20 * 6);
    dueSyntax(nineteen + "fn x=> 1", 20 * 6 + 1);
    dueSyntax(nineteen + "(1)", 19 * 6 + 1);
    dueSyntax(nineteen + "not(true)", 19 * 6 + 4);
    dueSyntax(nineteen + "if true then 1 else 2", 19 * 6 + 3);
    dueSyntax(nineteen + "let y=1 in y", 19 * 6 + 6);
    Check.dueType("let x=1 in ".repeat(19) + "x", "int");
    dueSyntax("let x=1 in ".repeat(20) + "x", 19 * 11 + 6);
    Check.dueType("not(".repeat(19) + "true" + ")".repeat(19), "bool");
    dueSyntax("not(".repeat(20) + "true" + ")".repeat(20), 80);
    // Calls and sums of one exp do not stand in one another.
    Check.dueSlice("1" + "(1)".repeat(33), "1 ( .. ) ..");
    Check.dueType(Check.ones(50), "int");
  }

  private static void names() {
    Check.dueFault("x", -2, 0);
    Check.dueFault("fn x=>y+z", -2, 6);
    Check.dueFault("(fn x=>x)(x)", -2, 10);
    Check.dueFault("let x=x in x", -2, 6);
    Check.dueFault("(let x=1 in x)+x", -2, 15);
    Check.dueFault("let x=fn y=>y in y", -2, 17);
    Check.dueFault("fn ab=>a", -2, 7);
    Check.dueFault("fn a=>ab", -2, 6);
    Check.dueFault("fn a1=>a2", -2, 7);
    Check.dueFault("1+true+x", -2, 7);
    Check.dueType("fn x=>fn x=>x+1", "a -> int -> int");
    Check.dueType("let x=1 in let x=true in x", "bool");
    Check.dueType("let x=1 in (let x=true in x,x)", "(bool, int)");
    Check.dueType("let x=1 in let x=(x,x) in x", "(int, int)");
    Check.dueType("fn x=>let x=(x,1) in x", "a -> (a, int)");
    Check.dueType("let x=1 in fn x=>x", "a -> a");
  }

  /** Two lets, the second with p names of the first, and q names of the second in the last exp. */
  private static String twoLets(String exp, int p, int q) {
    return "let a=" + exp + " in let b=a" + "+a".repeat(p - 1) + " in b" + "+b".repeat(q - 1);
  }

  private static void room() {
    // With s variables in the first exp there are (s+2)(1+p(q+1)) + q - 2.
    String s48 = "if true then " + Check.ones(12) + " else " + Check.ones(12);
    ErrorSlices x = Check.judged(twoLets(s48, 13, 2), 2);
    Check.due("variables", x.count(3), 2000);
    Check.due("nodes", x.count(1), 78);
    String s78 = "if true then " + Check.ones(19) + " else " + Check.ones(20);
    String over = twoLets(s78, 6, 3);
    Check.dueFault(over, -3, over.length());
    Check.dueFault(over + " \n", -3, over.length() + 2);
    ErrorSlices y = Check.judged(over, -3);
    Check.due("nodes", y.count(1), 96);
    ErrorSlices z = Check.judged(twoLets(s48.replace("true", "1"), 13, 2), 1);
    Check.due("variables of a text without type", z.count(3), 2000);
    Check.due("slice", Check.written(z), ".. if 1 then .. else ..");
    // Twenty lets, each with two names of the one before: more copies than an int could count.
    StringBuilder doubling = new StringBuilder("let a=1 in ");
    for (int i = 1; i < 19; i++) {
      doubling.append("let ").append((char) ('a' + i)).append('=');
      doubling.append((char) ('a' + i - 1)).append('+').append((char) ('a' + i - 1)).append(" in ");
    }
    Check.dueFault(doubling + "1", -3, doubling.length() + 1);
  }

  private static void firstFaultCounts() {
    dueSyntax("x+y)", 3);
    dueSyntax("1(1)+x+", 7);
    Check.dueFault("1+true+x+y", -2, 7);
    String s78 = "if true then " + Check.ones(19) + " else " + Check.ones(20);
    String over = twoLets(s78, 6, 3);
    Check.dueFault(over.replace("in b", "in c"), -2, over.indexOf("in b") + 3);
    dueSyntax(over + ")", over.length());
  }
}
