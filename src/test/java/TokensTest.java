/** Terms, TOKENS: names, words, numbers and signs, and the blanks between them. */
public final class TokensTest {
  private static final String[] WORDS =
      {"fn", "let", "in", "if", "then", "else", "true", "false", "not", "fst", "snd"};

  public static void main(String[] args) {
    everyByteAlone();
    everyByteBehindANumber();
    everyByteInAName();
    namesOfEveryLength();
    namesToTheirLastLetter();
    wordsAreNoNames();
    nearlyWordsAreNames();
    numbersOfEveryLength();
    nothingBehindANumber();
    signs();
    asLongAsTheyCanBe();
    blanksAsTheyLike();
    blanksPartTokens();
    Check.end();
  }

  private static boolean isLetter(int b) {
    return b >= 97 && b <= 122;
  }

  private static boolean isDigit(int b) {
    return b >= 48 && b <= 57;
  }

  private static boolean isBlank(int b) {
    return b == 10 || b == 32;
  }

  private static void everyByteAlone() {
    for (int b = 0; b < 256; b++) {
      String text = "" + (char) b;
      if (isDigit(b)) {
        Check.dueType(text, "int");
      } else if (isLetter(b)) {
        Check.dueFault(text, -2, 0);
      } else {
        Check.dueSyntax(text, isBlank(b) || b == '(' ? 1 : 0);
      }
    }
  }

  private static void everyByteBehindANumber() {
    for (int b = 0; b < 256; b++) {
      String text = "1" + (char) b + "+1";
      if (isDigit(b) || isBlank(b)) {
        Check.dueType(text, "int");
      } else if (isLetter(b)) {
        Check.dueSyntax(text, 0);
      } else {
        Check.dueSyntax(text, b == '+' || b == '(' || b == '<' ? 2 : 1);
      }
    }
  }

  private static void everyByteInAName() {
    for (int b = 0; b < 256; b++) {
      String first = "fn " + (char) b + "=>1";
      String second = "fn a" + (char) b + "=>1";
      if (isLetter(b)) {
        Check.dueType(first, "a -> int");
      } else {
        Check.dueSyntax(first, isBlank(b) ? 4 : 3);
      }
      if (isLetter(b) || isDigit(b) || isBlank(b)) {
        Check.dueType(second, "a -> int");
      } else {
        Check.dueSyntax(second, 4);
      }
    }
  }

  private static void namesOfEveryLength() {
    String[] rows = {"abcdefghijklmnop", "z987654321098765", "aaaaaaaaaaaaaaaa", "fnletinifthenels"};
    for (String row : rows) {
      for (int n = 1; n <= 16; n++) {
        String name = row.substring(0, n);
        if (name.equals("fn")) {
          continue;
        }
        if (n <= 10) {
          Check.dueType("fn " + name + "=>" + name + "+1", "int -> int");
          Check.dueType("let " + name + "=1 in " + name, "int");
          Check.dueFault("fn x=>1+" + name, -2, 8);
        } else {
          // A name that is none is a fault of syntax where it begins, whether or not it is in scope.
          Check.dueSyntax("fn " + name + "=>" + name + "+1", 3);
          Check.dueSyntax("let " + name + "=1 in " + name, 4);
          Check.dueSyntax("fn x=>1+" + name, 8);
          Check.dueSyntax("1 " + name, 2);
        }
      }
    }
    Check.dueSyntax("a".repeat(500), 0);
    Check.dueSyntax("1+" + "a".repeat(498), 2);
    Check.dueSyntax("truetruetruetrue", 0);
  }

  private static void namesToTheirLastLetter() {
    Check.dueType("fn abcdefghij=>fn abcdefghik=>(abcdefghik+1,abcdefghij)", "a -> int -> (int, a)");
    Check.dueFault("fn abcdefghij=>abcdefghik", -2, 15);
    Check.dueFault("fn abcdefghij=>abcdefghi", -2, 15);
    Check.dueFault("fn abcdefghi=>abcdefghij", -2, 14);
    Check.dueFault("fn a1=>a2", -2, 7);
    Check.dueFault("fn a1=>a", -2, 7);
    Check.dueFault("fn a=>a1", -2, 6);
    Check.dueFault("fn ba=>a", -2, 7);
    Check.dueType("fn a01=>fn a1=>a01+1", "int -> a -> int");
  }

  private static void wordsAreNoNames() {
    for (String word : WORDS) {
      Check.dueSyntax("fn " + word + "=>1", 3);
      Check.dueSyntax("let " + word + "=1 in 2", 4);
    }
    String[] noAtoms = {"in", "then", "else"};
    for (String word : noAtoms) {
      Check.dueSyntax(word, 0);
    }
    String[] notInSums = {"fn", "let", "if", "in", "then", "else"};
    for (String word : notInSums) {
      Check.dueSyntax("1+" + word, 2);
    }
  }

  private static void nearlyWordsAreNames() {
    for (String word : WORDS) {
      String shorter = word.substring(0, word.length() - 1);
      String turned = new StringBuilder(word).reverse().toString();
      String[] names = {word + "a", word + "z", word + "0", word + "9", "x" + word, word + word, shorter, turned};
      for (String name : names) {
        Check.dueType("fn " + name + "=>" + name + "+1", "int -> int");
        Check.dueFault(name, -2, 0);
      }
    }
  }

  private static void numbersOfEveryLength() {
    String[] rows = {"12345678901234", "00000000000000", "99999999999999"};
    for (String row : rows) {
      for (int n = 1; n <= 14; n++) {
        String number = row.substring(0, n);
        if (n <= 9) {
          Check.dueType(number, "int");
          Check.dueType("(" + number + "+" + number + ",true)", "(int, bool)");
          Check.dueSlice(number + "(1)", number + " ( .. )");
        } else {
          Check.dueSyntax(number, 0);
          Check.dueSyntax("(" + number, 1);
          Check.dueSyntax("1 + " + number + "+1", 4);
        }
      }
    }
    Check.dueSyntax("1".repeat(500), 0);
  }

  private static void nothingBehindANumber() {
    for (int n = 1; n <= 10; n++) {
      String number = "1234567890".substring(0, n);
      Check.dueSyntax(number + "a", 0);
      Check.dueSyntax(number + "z", 0);
      Check.dueSyntax("1+" + number + "fn", 2);
      Check.dueSyntax("1+" + number + "x1", 2);
    }
    Check.dueSyntax("if true then 1else 2", 13);
    Check.dueSyntax("let x=1in x", 6);
    Check.dueSyntax("fn 1a=>1", 3);
    // A letter is one of a .. z; the byte X begins no token.
    Check.dueSyntax("1X", 1);
    Check.dueSyntax("1_", 1);
  }

  private static void signs() {
    Check.dueType("fn x=>x", "a -> a");
    Check.dueSyntax("fn x=x", 4);
    Check.dueSyntax("fn x= >x", 4);
    Check.dueSyntax("fn x=\n>x", 4);
    Check.dueSyntax("fn x>=x", 4);
    Check.dueSyntax("fn x==>x", 4);
    Check.dueSyntax("fn x=>>x", 6);
    Check.dueSyntax("fn x=>=x", 6);
    Check.dueSyntax("fn x=>=>x", 6);
    Check.dueSyntax("let x=>1 in x", 5);
    Check.dueSyntax("let x= >1 in x", 7);
    Check.dueSyntax("let x==1 in x", 6);
    Check.dueSyntax("let x==>1 in x", 6);
    Check.dueSyntax("fn x=", 4);
    Check.dueSyntax("let x=", 6);
    Check.dueSyntax("1<=2", 2);
    Check.dueSyntax("1=<2", 1);
    Check.dueSyntax("1>2", 1);
    Check.dueSyntax("-1", 0);
    Check.dueSyntax("1-1", 1);
    Check.dueSyntax("=".repeat(500), 0);
  }

  private static void asLongAsTheyCanBe() {
    Check.dueSyntax("fnx=>x", 3);
    Check.dueSyntax("letx=1 in x", 4);
    Check.dueSyntax("let x=1 inx", 8);
    Check.dueSyntax("let x=x in1", 8);
    Check.dueSyntax("iftrue then 1 else 2", 7);
    Check.dueSyntax("if true then1 else 2", 8);
    Check.dueSyntax("if true then 1 else2", 15);
    Check.dueFault("nottrue", -2, 0);
    Check.dueFault("not1", -2, 0);
    Check.dueFault("fstsnd", -2, 0);
    Check.dueFault("true1", -2, 0);
    Check.dueSyntax("abcdefghij1", 0);
  }

  private static void blanksAsTheyLike() {
    String[] blanks = {" ", "\n", "  ", "\n\n", " \n ", "\n \n"};
    String[] tokens = {"let", "f", "=", "fn", "x", "=>", "if", "x", "<", "1", "then", "(", "x", "+", "1", ",", "true",
        ")", "else", "(", "0", ",", "not", "(", "false", ")", ")", "in", "fst", "(", "f", "(", "2", ")", ")"};
    for (String blank : blanks) {
      String text = String.join(blank, tokens);
      Check.dueType(text, "int");
      Check.dueType(blank + text + blank, "int");
    }
    Check.dueType("let f=fn x=>if x<1then1else(1)".replace("1then1else", "1 then 1 else") + "in(f)(2)", "int");
    Check.dueType("let x=(1)in(x)", "int");
    Check.dueType("if(true)then(1)else(2)", "int");
    Check.dueType("if\n(true)then(1)else\n2", "int");
    Check.dueSlice(" \n1 \n+\n true\n", ".. + true");
  }

  private static void blanksPartTokens() {
    Check.dueSyntax("tr ue", 3);
    Check.dueSyntax("tr\nue", 3);
    Check.dueSyntax("1 2", 2);
    Check.dueSyntax("123456789 0", 10);
    Check.dueSyntax("fn a b=>1", 5);
    Check.dueSyntax("fn x=>abcdefghij k", 17);
    Check.dueSyntax("f n x=>1", 2);
  }
}
