import java.util.ArrayList;
import java.util.HashMap;
import java.util.List;
import java.util.Map;
import java.util.TreeSet;

/**
 * The document's rules once more, written apart from the class and as near to its words as can be:
 * copies are made by going through an exp again, types are objects, and the tree is walked by recursion.
 */
final class Reference {
  /** A fault that ends the judging. */
  private static final class Fault extends RuntimeException {
    private static final long serialVersionUID = 1L;
    final int place;

    Fault(int place) {
      super(null, null, false, false);
      this.place = place;
    }
  }

  private record Token(String kind, String text, int start) {
  }

  private static final class Node {
    final String kind;
    final List<Node> parts = new ArrayList<>();
    final TreeSet<Integer> own = new TreeSet<>();
    String name = "";
    int number = -1;

    Node(String kind) {
      this.kind = kind;
    }
  }

  private static final class Type {
    String shape = "";
    Type first = null;
    Type second = null;
    Type same = null;
  }

  /** What a name in scope means: the type of a fn's name, or a let's exp with the scope around it. */
  private record Meaning(Type type, Node exp, Map<String, Meaning> scope) {
  }

  private static final List<String> WORDS =
      List.of("fn", "let", "in", "if", "then", "else", "true", "false", "not", "fst", "snd");

  int answer = 0;
  int place = -1;
  int nodeCount = 0;
  int variables = 0;
  final TreeSet<Integer> slice = new TreeSet<>();
  String written = "";

  private final String text;
  private final List<Token> tokens = new ArrayList<>();
  private final List<Node> nodes = new ArrayList<>();
  private int next = 0;
  private Node root = null;
  private int firstUnknown = Integer.MAX_VALUE;
  private int made = 0;
  private boolean[] left = null;
  private boolean clash = false;

  Reference(String text) {
    this.text = text;
    try {
      split();
      root = exp(1);
      want("end");
    } catch (Fault fault) {
      answer = -1;
      place = fault.place;
      return;
    }
    nodes.sort((a, b) -> Integer.compare(a.own.first(), b.own.first()));
    for (int i = 0; i < nodes.size(); i++) {
      nodes.get(i).number = i;
    }
    nodeCount = nodes.size();
    findUnknown(root, new ArrayList<>());
    if (firstUnknown != Integer.MAX_VALUE) {
      answer = -2;
      place = firstUnknown;
      return;
    }
    left = new boolean[nodeCount];
    try {
      judgeTypes();
    } catch (Fault fault) {
      answer = -3;
      place = text.length();
    }
  }

  private static boolean isLetter(char c) {
    return c >= 'a' && c <= 'z';
  }

  private static boolean isDigit(char c) {
    return c >= '0' && c <= '9';
  }

  private void split() {
    int at = 0;
    while (at < text.length()) {
      char c = text.charAt(at);
      if (c == '\n' || c == ' ') {
        at++;
        continue;
      }
      int end = at;
      while (end < text.length() && (isLetter(text.charAt(end)) || isDigit(text.charAt(end)))) {
        end++;
      }
      String run = text.substring(at, end);
      if (run.matches("[a-z][a-z0-9]{0,9}")) {
        tokens.add(new Token(WORDS.contains(run) ? run : "name", run, at));
      } else if (run.matches("[0-9]{1,9}")) {
        tokens.add(new Token("number", run, at));
      } else if (!run.isEmpty()) {
        tokens.add(new Token("bad", run, at));
      } else if (text.startsWith("=>", at)) {
        tokens.add(new Token("=>", "=>", at));
        end = at + 2;
      } else {
        tokens.add(new Token("=(),+<".indexOf(c) >= 0 ? "" + c : "bad", "" + c, at));
        end = at + 1;
      }
      at = end;
    }
    tokens.add(new Token("end", "", text.length()));
  }

  private boolean sees(String kind) {
    return tokens.get(next).kind().equals(kind);
  }

  private void want(String kind) {
    if (!sees(kind)) {
      throw new Fault(tokens.get(next).start());
    }
    next++;
  }

  private Node node(String kind) {
    if (nodes.size() == 100) {
      throw new Fault(tokens.get(next).start());
    }
    Node node = new Node(kind);
    nodes.add(node);
    return node;
  }

  private void own(Node node, String kind) {
    node.own.add(next);
    if (kind.equals("name")) {
      node.name = tokens.get(next).text();
    }
    want(kind);
  }

  private Node exp(int depth) {
    if (depth > 20) {
      throw new Fault(tokens.get(next).start());
    }
    if (sees("fn")) {
      Node node = node("fn");
      own(node, "fn");
      own(node, "name");
      own(node, "=>");
      node.parts.add(exp(depth + 1));
      return node;
    }
    if (sees("let")) {
      Node node = node("let");
      own(node, "let");
      own(node, "name");
      own(node, "=");
      node.parts.add(exp(depth + 1));
      own(node, "in");
      node.parts.add(exp(depth + 1));
      return node;
    }
    if (sees("if")) {
      Node node = node("if");
      for (String word : List.of("if", "then", "else")) {
        own(node, word);
        node.parts.add(exp(depth + 1));
      }
      return node;
    }
    Node one = sum(depth);
    if (sees("<")) {
      Node node = node("<");
      own(node, "<");
      node.parts.add(one);
      node.parts.add(sum(depth));
      return node;
    }
    return one;
  }

  private Node sum(int depth) {
    Node all = call(depth);
    while (sees("+")) {
      Node node = node("+");
      own(node, "+");
      node.parts.add(all);
      node.parts.add(call(depth));
      all = node;
    }
    return all;
  }

  private Node call(int depth) {
    Node all = atom(depth);
    while (sees("(")) {
      Node node = node("call");
      own(node, "(");
      node.parts.add(all);
      node.parts.add(exp(depth + 1));
      own(node, ")");
      all = node;
    }
    return all;
  }

  private Node atom(int depth) {
    for (String kind : List.of("name", "number", "true", "false", "not", "fst", "snd")) {
      if (sees(kind)) {
        Node node = node(kind);
        own(node, kind);
        return node;
      }
    }
    int open = next;
    want("(");
    Node one = exp(depth + 1);
    if (sees(",")) {
      Node node = node("pair");
      node.own.add(open);
      own(node, ",");
      node.parts.add(one);
      node.parts.add(exp(depth + 1));
      own(node, ")");
      return node;
    }
    want(")");
    return one;
  }

  private void findUnknown(Node node, List<String> scope) {
    if (node.kind.equals("name") && !scope.contains(node.name)) {
      firstUnknown = Math.min(firstUnknown, tokens.get(node.own.first()).start());
    }
    for (int i = 0; i < node.parts.size(); i++) {
      List<String> inner = new ArrayList<>(scope);
      if (node.kind.equals("fn") || node.kind.equals("let") && i == 1) {
        inner.add(node.name);
      }
      findUnknown(node.parts.get(i), inner);
    }
  }

  private void judgeTypes() {
    Type whole = solve();
    variables = made;
    if (!clash) {
      answer = 2;
      StringBuilder out = new StringBuilder();
      write(whole, out, new HashMap<>());
      written = out.substring(0, Math.min(out.length(), 4000));
      return;
    }
    answer = 1;
    for (int k = 0; k < nodeCount; k++) {
      left[k] = true;
      solve();
      if (!clash) {
        left[k] = false;
        slice.add(k);
      }
    }
    written = writtenSlice();
  }

  private Type solve() {
    made = 0;
    clash = false;
    return typeOf(root, Map.of());
  }

  private Type variable() {
    made++;
    if (made > 2000) {
      throw new Fault(text.length());
    }
    return new Type();
  }

  /** The type of a node, of which all that it asks, and all in it, has been asked. */
  private Type typeOf(Node node, Map<String, Meaning> scope) {
    Type own = variable();
    Type of = null;
    List<Type> parts = new ArrayList<>();
    if (node.kind.equals("fn")) {
      of = variable();
      parts.add(typeOf(node.parts.get(0), with(scope, node.name, new Meaning(of, null, null))));
    } else if (node.kind.equals("let")) {
      Node exp = node.parts.get(0);
      parts.add(typeOf(exp, scope));
      parts.add(typeOf(node.parts.get(1), with(scope, node.name, new Meaning(null, exp, scope))));
    } else {
      for (Node part : node.parts) {
        parts.add(typeOf(part, scope));
      }
    }
    if (node.kind.equals("name")) {
      Meaning meaning = scope.get(node.name);
      of = meaning.type() != null ? meaning.type() : typeOf(meaning.exp(), meaning.scope());
    }
    if (!left[node.number]) {
      ask(node, own, of, parts);
    }
    return own;
  }

  private static Map<String, Meaning> with(Map<String, Meaning> scope, String name, Meaning meaning) {
    Map<String, Meaning> inner = new HashMap<>(scope);
    inner.put(name, meaning);
    return inner;
  }

  private void ask(Node node, Type own, Type of, List<Type> parts) {
    Type whole = shape("int", null, null);
    Type truth = shape("bool", null, null);
    Type one = new Type();
    Type two = new Type();
    switch (node.kind) {
      case "number" -> same(own, whole);
      case "true", "false" -> same(own, truth);
      case "not" -> same(own, shape("->", truth, truth));
      case "fst" -> same(own, shape("->", shape(",", one, two), one));
      case "snd" -> same(own, shape("->", shape(",", one, two), two));
      case "name" -> same(own, of);
      case "fn" -> same(own, shape("->", of, parts.get(0)));
      case "let" -> same(own, parts.get(1));
      case "if" -> {
        same(parts.get(0), truth);
        same(own, parts.get(1));
        same(own, parts.get(2));
      }
      case "<", "+" -> {
        same(parts.get(0), whole);
        same(parts.get(1), whole);
        same(own, node.kind.equals("<") ? truth : whole);
      }
      case "call" -> same(parts.get(0), shape("->", parts.get(1), own));
      case "pair" -> same(own, shape(",", parts.get(0), parts.get(1)));
      default -> throw new IllegalStateException(node.kind);
    }
  }

  private static Type shape(String shape, Type first, Type second) {
    Type type = new Type();
    type.shape = shape;
    type.first = first;
    type.second = second;
    return type;
  }

  private static Type end(Type type) {
    while (type.same != null) {
      type = type.same;
    }
    return type;
  }

  private void same(Type a, Type b) {
    Type x = end(a);
    Type y = end(b);
    if (x == y || clash) {
      return;
    }
    if (x.shape.isEmpty() || y.shape.isEmpty()) {
      Type free = x.shape.isEmpty() ? x : y;
      Type other = free == x ? y : x;
      if (isPart(free, other, new java.util.HashSet<>())) {
        clash = true;
      } else {
        free.same = other;
      }
    } else if (!x.shape.equals(y.shape)) {
      clash = true;
    } else {
      if (x.first != null) {
        same(x.first, y.first);
        same(x.second, y.second);
      }
      // Not before: one of them could be a part of the other, which shows at a free type in them.
      if (!clash && x.first != null) {
        x.same = y;
      }
    }
  }

  private static boolean isPart(Type free, Type type, java.util.Set<Type> seen) {
    Type t = end(type);
    if (t == free) {
      return true;
    }
    return seen.add(t) && t.first != null && (isPart(free, t.first, seen) || isPart(free, t.second, seen));
  }

  private static void write(Type type, StringBuilder out, Map<Type, String> letters) {
    Type t = end(type);
    if (out.length() > 4000) {
      return;
    }
    if (t.shape.equals("->")) {
      boolean brackets = end(t.first).shape.equals("->");
      out.append(brackets ? "(" : "");
      write(t.first, out, letters);
      out.append(brackets ? ")" : "").append(" -> ");
      write(t.second, out, letters);
    } else if (t.shape.equals(",")) {
      out.append("(");
      write(t.first, out, letters);
      out.append(", ");
      write(t.second, out, letters);
      out.append(")");
    } else if (t.shape.isEmpty()) {
      int n = letters.size();
      letters.putIfAbsent(t, (char) ('a' + n % 26) + (n < 26 ? "" : "" + n / 26));
      out.append(letters.get(t));
    } else {
      out.append(t.shape);
    }
  }

  private String writtenSlice() {
    TreeSet<Integer> shown = new TreeSet<>();
    for (int k : slice) {
      shown.addAll(nodes.get(k).own);
    }
    int last = tokens.size() - 2;
    List<String> pieces = new ArrayList<>();
    boolean gap = false;
    for (int t = 0; t <= last; t++) {
      if (shown.contains(t)) {
        pieces.add(tokens.get(t).text());
        gap = false;
      } else if (!gap) {
        pieces.add("..");
        gap = true;
      }
    }
    String all = String.join(" ", pieces);
    return all.substring(0, Math.min(all.length(), 4000));
  }
}
