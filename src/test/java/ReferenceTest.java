import java.util.ArrayList;
import java.util.List;
import java.util.Random;

/** Texts from a row of numbers that is always the same, judged by the class and by the reference. */
public final class ReferenceTest {
  private static final String SOUP = "abfx10=>(),+< \nfn let in if then else true not fst snd";

  // With them, a full text and a hundred nodes an object has calls enough.
  private static final int FETCHES = 300;

  private final Random random;
  private int budget = 0;
  private ErrorSlices slices = new ErrorSlices();
  private int calls = 0;

  private ReferenceTest(long seed) {
    random = new Random(seed);
  }

  public static void main(String[] args) {
    int rounds = args.length > 0 ? Integer.parseInt(args[0]) : 12000;
    long seed = args.length > 1 ? Long.parseLong(args[1]) : 1;
    int[] seen = new int[7];
    ReferenceTest texts = new ReferenceTest(seed);
    for (int i = 0; i < rounds; i++) {
      String text = texts.next();
      if (text.length() <= 500) {
        seen[texts.compare(text) + 3]++;
      }
    }
    System.out.println("faults 3, 2, 1: " + seen[0] + ", " + seen[1] + ", " + seen[2]
        + "; without type " + seen[4] + ", with one " + seen[5]);
    for (int answer : new int[] {-3, -2, -1, 1, 2}) {
      Check.due("texts with the answer " + answer, seen[answer + 3] > 0, true);
    }
    Check.end();
  }

  /** An object for a text that needs so many calls: the last one, while nothing of it is free. */
  private ErrorSlices forCalls(int more) {
    if (calls + more > Check.CALLS) {
      slices = new ErrorSlices();
      calls = 0;
    }
    calls += more;
    return slices;
  }

  private int compare(String text) {
    Reference due = new Reference(text);
    int fetches = Math.min(FETCHES, due.written.length() / 7 + 1);
    ErrorSlices x = forCalls(Check.puts(text) + 6 + fetches + due.nodeCount + 2);
    Check.due("put of " + text, Check.put(x, text), true);
    Check.due("judge of " + text, x.judge(), due.answer);
    Check.due("place in " + text, x.place(), due.place);
    Check.due("nodes of " + text, x.count(1), due.nodeCount);
    Check.due("nodes in the slice of " + text, x.count(2), due.slice.size());
    Check.due("variables of " + text, x.count(3), due.variables);
    Check.due("bytes written for " + text, x.count(4), due.written.length());
    String written = due.written.substring(0, Math.min(due.written.length(), 7 * fetches));
    Check.due("written for " + text, Check.written(x, fetches), written);
    for (int k = -1; k <= due.nodeCount; k++) {
      Check.due("isIn(" + k + ") of " + text, x.isIn(k), due.slice.contains(k));
    }
    return due.answer;
  }

  private String next() {
    if (random.nextInt(20) == 0) {
      return soup();
    }
    budget = 1 + random.nextInt(random.nextInt(4) == 0 ? 110 : 30);
    String text = random.nextInt(4) == 0 ? chain() : exp(0, new ArrayList<>());
    if (random.nextInt(5) == 0) {
      text = broken(text);
    }
    return text;
  }

  /** Lets that use one another: many copies, and types that grow. */
  private String chain() {
    String[] shapes = {
      "1", "true", "not", "fst", "snd", "fn x=>x", "fn x=>(x,x)", "fn f=>fn x=>f(f(x))", "fn x=>fn y=>x",
      "fn x=>P(Q(x))", "fn x=>P(P(x))", "fn x=>(P(x),Q)", "(P,Q)", "P(Q)", "P+Q", "fst(P)", "snd(P)",
      "if true then P else Q", "fn y=>if y then P else Q", "let x=P in (x,x)", "fn x=>let y=P(x) in (y,y)",
      "fn x=>let y=(x,P) in snd(y)", "P(P(Q))", "fn x=>P(x)+Q(x)", "P<Q", "P(fn x=>x)", "((P),(Q))(P)"
    };
    StringBuilder text = new StringBuilder();
    int lets = 1 + random.nextInt(14);
    for (int i = 0; i <= lets; i++) {
      // The first ones have no names to use.
      String shape = shapes[random.nextInt(i == 0 ? 9 : shapes.length)];
      for (int at = 0; at < 3; at++) {
        shape = shape.replaceFirst("[PQ]", "" + (char) ('a' + Math.max(0, i - 1 - random.nextInt(3))));
      }
      text.append(i < lets ? "let " + (char) ('a' + i) + "=" + shape + " in " : shape);
    }
    return text.toString();
  }

  /** Words, signs and bytes in no order, up to a full text. */
  private String soup() {
    String[] pieces = {"fn x=>", "let x=", " in ", "if ", " then ", " else ", "(", ")", ",", "+", "<", "x", "1"};
    StringBuilder soup = new StringBuilder();
    int length = random.nextInt(random.nextInt(3) == 0 ? 500 : 20);
    while (soup.length() < length) {
      int odd = random.nextInt(200);
      soup.append(odd == 0 ? "" + (char) random.nextInt(256) : pieces[random.nextInt(pieces.length)]);
    }
    soup.setLength(length);
    return soup.toString();
  }

  private String broken(String text) {
    StringBuilder broken = new StringBuilder(text);
    int changes = 1 + random.nextInt(3);
    for (int i = 0; i < changes; i++) {
      int at = random.nextInt(broken.length() + 1);
      int from = random.nextInt(SOUP.length());
      String piece = SOUP.substring(from, Math.min(SOUP.length(), from + random.nextInt(5)));
      int end = Math.min(broken.length(), at + random.nextInt(3));
      broken.replace(at, end, piece);
    }
    return broken.toString();
  }

  private String blank() {
    int n = random.nextInt(12);
    return n == 0 ? "\n" : n == 1 ? "  " : n == 2 ? " " : "";
  }

  private String exp(int depth, List<String> scope) {
    budget--;
    int kind = budget <= 0 || depth > 16 ? 9 : random.nextInt(10);
    switch (kind) {
      case 0:
      case 1: {
        String name = newName();
        return "fn " + name + blank() + "=>" + blank() + exp(depth + 1, with(scope, name));
      }
      case 2:
      case 3: {
        String name = newName();
        String bound = exp(depth + 1, scope);
        return "let " + name + "=" + bound + " in " + exp(depth + 1, with(scope, name));
      }
      case 4:
        return "if " + exp(depth + 1, scope) + " then " + exp(depth + 1, scope) + " else "
            + exp(depth + 1, scope);
      case 5:
        return sum(depth, scope) + blank() + "<" + blank() + sum(depth, scope);
      default:
        return sum(depth, scope);
    }
  }

  private String sum(int depth, List<String> scope) {
    StringBuilder sum = new StringBuilder(call(depth, scope));
    while (random.nextInt(4) == 0 && budget > 0) {
      sum.append(blank()).append('+').append(blank()).append(call(depth, scope));
    }
    return sum.toString();
  }

  private String call(int depth, List<String> scope) {
    StringBuilder call = new StringBuilder(atom(depth, scope));
    while (random.nextInt(3) == 0 && budget > 0) {
      call.append('(').append(blank()).append(exp(depth + 1, scope)).append(')');
    }
    return call.toString();
  }

  private String atom(int depth, List<String> scope) {
    budget--;
    int kind = random.nextInt(16);
    if (kind < 7 && !scope.isEmpty()) {
      return scope.get(random.nextInt(scope.size()));
    }
    if (kind < 12 && budget > 0 && depth < 17) {
      String one = exp(depth + 1, scope);
      return kind < 9 ? "(" + one + ")" : "(" + one + "," + blank() + exp(depth + 1, scope) + ")";
    }
    String[] atoms = {"1", "0", "42", "true", "false", "not", "fst", "snd"};
    return atoms[random.nextInt(atoms.length)];
  }

  private String newName() {
    String[] names = {"a", "b", "c", "f", "g", "x", "y", "z", "fn1", "abcdefghij"};
    return names[random.nextInt(names.length)];
  }

  private static List<String> with(List<String> scope, String name) {
    List<String> inner = new ArrayList<>(scope);
    inner.add(name);
    return inner;
  }
}
