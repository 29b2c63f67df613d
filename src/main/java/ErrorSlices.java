/**
 * Judges texts of a small language of functions: the type of a text that has one, and of a text that
 * has none a slice, the nodes that are at odds with each other.
 */
public final class ErrorSlices {
  private static final int MAX_BYTES = 500;
  private static final int MAX_NODES = 100;
  private static final int MAX_DEPTH = 20;
  private static final int MAX_VARIABLES = 2000;
  private static final int MAX_WRITTEN = 4000;
  private static final int MAX_NAME = 10;
  private static final int MAX_DIGITS = 9;
  private static final int BYTES_A_FETCH = 7;
  // Far above what any loop that counts its steps can need.
  private static final int MANY_STEPS = 1000000;
  private static final int NONE = -1;

  private static final int HAS_TYPE = 2;
  private static final int HAS_NO_TYPE = 1;
  private static final int SYNTAX_FAULT = -1;
  private static final int NAME_FAULT = -2;
  private static final int ROOM_FAULT = -3;

  // The kinds of tokens. A node has the kind of the token that shows which node it is: a call that of
  // its '(', a pair that of its comma.
  private static final int END = 0;
  private static final int BAD = 1;
  private static final int NAME = 2;
  private static final int NUMBER = 3;
  private static final int FN = 4;
  private static final int LET = 5;
  private static final int IN = 6;
  private static final int IF = 7;
  private static final int THEN = 8;
  private static final int ELSE = 9;
  private static final int TRUE = 10;
  private static final int FALSE = 11;
  private static final int NOT = 12;
  private static final int FST = 13;
  private static final int SND = 14;
  private static final int ARROW = 15;
  private static final int EQUALS = 16;
  private static final int OPEN = 17;
  private static final int CLOSE = 18;
  private static final int COMMA = 19;
  private static final int PLUS = 20;
  private static final int LESS = 21;

  // The words from FN to SND, in the order of their kinds, each in a field of WORD_FIELD characters.
  private static final String WORDS = "fn   let  in   if   then else true falsenot  fst  snd  ";
  private static final int WORD_FIELD = 5;

  // The kinds of cells; that of a cell which stands for another one is LINK.
  private static final int FREE = 0;
  private static final int LINK = 1;
  private static final int INT = 2;
  private static final int BOOL = 3;
  private static final int FUNCTION = 4;
  private static final int PAIR = 5;

  private final Text text = new Text();
  private final Tokens tokens = new Tokens(text);
  private final Parser parser = new Parser(tokens);
  private final Tree tree = new Tree();
  private final Copies copies = new Copies(tree);
  private final Types types = new Types();
  private final Checker checker = new Checker(tree, copies, types);
  private final Output output = new Output();
  private final TypeWriter typeWriter = new TypeWriter(types, output);
  private final boolean[] slice = new boolean[MAX_NODES];
  private int faultPlace = NONE;
  private int nodes = 0;
  private int sliceSize = 0;
  private int variables = 0;

  public ErrorSlices() {
  }

  public boolean put(long v, int n) {
    if (n < 1 || n > 8 || text.length() + n > MAX_BYTES) {
      return false;
    }
    for (int i = n - 1; i >= 0; i--) {
      text.append((byte) (v >>> 8 * i));
    }
    return true;
  }

  public int judge() {
    forgetLastText();
    tokens.read();
    int answer = answerForTokens();
    text.clear();
    return answer;
  }

  public int place() {
    return faultPlace;
  }

  public boolean isIn(int k) {
    return k >= 0 && k < nodes && k < MAX_NODES && slice[k];
  }

  public long fetch() {
    return output.take();
  }

  public int count(int what) {
    switch (what) {
      case 0: return text.length();
      case 1: return nodes;
      case 2: return sliceSize;
      case 3: return variables;
      case 4: return output.left();
      default: return -1;
    }
  }

  private void forgetLastText() {
    faultPlace = NONE;
    nodes = 0;
    sliceSize = 0;
    variables = 0;
    for (int k = 0; k < MAX_NODES; k++) {
      slice[k] = false;
    }
    output.clear();
  }

  private int answerForTokens() {
    if (!parser.parse()) {
      return fault(SYNTAX_FAULT, tokens.start(parser.refusedToken()));
    }
    tree.gather(tokens, parser);
    nodes = tree.size();
    if (parser.unknownName() != NONE) {
      return fault(NAME_FAULT, tokens.start(parser.unknownName()));
    }
    if (!copies.unfold()) {
      return fault(ROOM_FAULT, text.length());
    }
    variables = copies.variables();
    if (checker.allFine()) {
      typeWriter.write(copies.variable(0, tree.root()));
      return HAS_TYPE;
    }
    sliceSize = checker.cut(slice);
    writeSlice();
    return HAS_NO_TYPE;
  }

  private int fault(int which, int at) {
    faultPlace = at;
    return which;
  }

  private void writeSlice() {
    int last = NONE;
    for (int t = 0; t < tokens.size(); t++) {
      if (isIn(tree.ownerOf(t))) {
        if (t > last + 1) {
          output.addText(last == NONE ? ".. " : " .. ");
        } else if (last != NONE) {
          output.addText(" ");
        }
        tokens.copyTo(output, t);
        last = t;
      }
    }
    if (last < tokens.size() - 1) {
      output.addText(" ..");
    }
  }

  /** The bytes that have been put. */
  private static final class Text {
    private final byte[] bytes = new byte[MAX_BYTES];
    private int length = 0;

    int length() {
      return length;
    }

    void clear() {
      length = 0;
    }

    void append(byte b) {
      if (length < MAX_BYTES) {
        bytes[length] = b;
        length++;
      }
    }

    /** The byte at a place, 0 .. 255; NONE where there is none. */
    int at(int place) {
      return place >= 0 && place < length && place < MAX_BYTES ? bytes[place] & 255 : NONE;
    }

    boolean isBlank(int place) {
      return at(place) == 10 || at(place) == 32;
    }

    boolean isLetter(int place) {
      return at(place) >= 'a' && at(place) <= 'z';
    }

    boolean isDigit(int place) {
      return at(place) >= '0' && at(place) <= '9';
    }

    boolean isLetterOrDigit(int place) {
      return isLetter(place) || isDigit(place);
    }
  }

  /** The tokens of a text; what is no token stands among them as one of the kind BAD. */
  private static final class Tokens {
    private final Text text;
    private final int[] kinds = new int[MAX_BYTES];
    private final int[] starts = new int[MAX_BYTES];
    private final int[] ends = new int[MAX_BYTES];
    private int size = 0;

    Tokens(Text text) {
      this.text = text;
    }

    int size() {
      return size;
    }

    int kind(int t) {
      return t >= 0 && t < size ? kinds[t] : END;
    }

    int start(int t) {
      return t >= 0 && t < size ? starts[t] : text.length();
    }

    int end(int t) {
      return t >= 0 && t < size ? ends[t] : text.length();
    }

    void read() {
      size = 0;
      int place = 0;
      for (int step = 0; step < MAX_BYTES && place < text.length(); step++) {
        if (text.isBlank(place)) {
          place++;
        } else {
          int end = endFrom(place);
          add(place, end);
          place = end;
        }
      }
    }

    boolean areSame(int t, int u) {
      if (t < 0 || t >= size || u < 0 || u >= size || ends[t] - starts[t] != ends[u] - starts[u]) {
        return false;
      }
      for (int i = 0; i < ends[t] - starts[t]; i++) {
        if (text.at(starts[t] + i) != text.at(starts[u] + i)) {
          return false;
        }
      }
      return true;
    }

    void copyTo(Output output, int t) {
      for (int i = start(t); i < end(t); i++) {
        output.add(text.at(i));
      }
    }

    private void add(int start, int end) {
      if (size < MAX_BYTES) {
        kinds[size] = kindFrom(start, end);
        starts[size] = start;
        ends[size] = end;
        size++;
      }
    }

    private int endFrom(int start) {
      if (!text.isLetterOrDigit(start)) {
        return text.at(start) == '=' && text.at(start + 1) == '>' ? start + 2 : start + 1;
      }
      int end = start + 1;
      while (end < text.length() && text.isLetterOrDigit(end)) {
        end++;
      }
      return end;
    }

    private int kindFrom(int start, int end) {
      if (text.isLetter(start)) {
        return end - start > MAX_NAME ? BAD : wordOrName(start, end);
      }
      if (text.isDigit(start)) {
        return end - start > MAX_DIGITS || holdsLetter(start, end) ? BAD : NUMBER;
      }
      return end - start == 2 ? ARROW : sign(text.at(start));
    }

    private boolean holdsLetter(int start, int end) {
      for (int i = start; i < end; i++) {
        if (text.isLetter(i)) {
          return true;
        }
      }
      return false;
    }

    private int wordOrName(int start, int end) {
      for (int kind = FN; kind <= SND; kind++) {
        if (isWord(start, end, (kind - FN) * WORD_FIELD)) {
          return kind;
        }
      }
      return NAME;
    }

    private boolean isWord(int start, int end, int field) {
      if (end - start > WORD_FIELD || field < 0 || field + WORD_FIELD > WORDS.length()) {
        return false;
      }
      for (int i = 0; i < WORD_FIELD; i++) {
        int here = start + i < end ? text.at(start + i) : ' ';
        if (here != WORDS.charAt(field + i)) {
          return false;
        }
      }
      return true;
    }

    private static int sign(int c) {
      switch (c) {
        case '=': return EQUALS;
        case '(': return OPEN;
        case ')': return CLOSE;
        case ',': return COMMA;
        case '+': return PLUS;
        case '<': return LESS;
        default: return BAD;
      }
    }
  }

  /** Rows of what is known of nodes: their kinds, the nodes that are their parts, what names mean. */
  private static final class Nodes {
    private final int[] kinds;
    private final int[] firsts;
    private final int[] seconds;
    private final int[] thirds;
    private final int[] meanings;

    Nodes(int capacity) {
      int length = Math.max(capacity, 0);
      kinds = new int[length];
      firsts = new int[length];
      seconds = new int[length];
      thirds = new int[length];
      meanings = new int[length];
    }

    int kind(int node) {
      return holds(node) ? kinds[node] : END;
    }

    int first(int node) {
      return holds(node) ? firsts[node] : NONE;
    }

    int second(int node) {
      return holds(node) ? seconds[node] : NONE;
    }

    int third(int node) {
      return holds(node) ? thirds[node] : NONE;
    }

    /** The fn or let whose name a name is, or NONE. */
    int meaning(int node) {
      return holds(node) ? meanings[node] : NONE;
    }

    void begin(int node, int kind) {
      if (holds(node)) {
        kinds[node] = kind;
        firsts[node] = NONE;
        seconds[node] = NONE;
        thirds[node] = NONE;
        meanings[node] = NONE;
      }
    }

    void setFirst(int node, int part) {
      if (holds(node)) {
        firsts[node] = part;
      }
    }

    void setSecond(int node, int part) {
      if (holds(node)) {
        seconds[node] = part;
      }
    }

    void setThird(int node, int part) {
      if (holds(node)) {
        thirds[node] = part;
      }
    }

    void setMeaning(int node, int binder) {
      if (holds(node)) {
        meanings[node] = binder;
      }
    }

    private boolean holds(int node) {
      return node >= 0 && node < kinds.length;
    }
  }

  /**
   * Reads tokens by the grammar. A node is known by the number of its first own token, as a pair shows
   * at its comma only that it is a node. Once a token is refused the parser sees the END alone, with
   * which every rule comes to its end by itself.
   */
  private static final class Parser {
    // One more than there can be tokens: the END has a place, too.
    private static final int PLACES = MAX_BYTES + 1;

    private final Tokens tokens;
    private final Nodes drafts = new Nodes(PLACES);
    private final int[] owners = new int[PLACES];
    private final int[] scope = new int[MAX_DEPTH];
    private int scopeSize = 0;
    private int cursor = 0;
    private int nodes = 0;
    private int refused = NONE;
    private int unknown = NONE;
    private int root = 0;

    Parser(Tokens tokens) {
      this.tokens = tokens;
    }

    /** Whether the tokens are a text; what the parser tells of nodes counts only if they are. */
    boolean parse() {
      scopeSize = 0;
      cursor = 0;
      nodes = 0;
      refused = NONE;
      unknown = NONE;
      root = expression(1);
      if (current() != END) {
        refuse();
      }
      return refused == NONE;
    }

    int refusedToken() {
      return refused;
    }

    /** The first name that is no variable in scope, or NONE. */
    int unknownName() {
      return unknown;
    }

    int root() {
      return root;
    }

    Nodes drafts() {
      return drafts;
    }

    /** The node whose own token this is, or NONE. */
    int owner(int token) {
      return isPlace(token) ? owners[token] : NONE;
    }

    private static boolean isPlace(int t) {
      return t >= 0 && t < PLACES;
    }

    private int current() {
      return refused == NONE ? tokens.kind(cursor) : END;
    }

    private void refuse() {
      if (refused == NONE) {
        refused = cursor;
      }
    }

    private void take(int owner) {
      if (refused == NONE && cursor < tokens.size() && cursor < PLACES) {
        owners[cursor] = owner;
        cursor++;
      }
    }

    private void expect(int kind, int owner) {
      if (current() == kind) {
        take(owner);
      } else {
        refuse();
      }
    }

    private void countNode() {
      if (nodes < MAX_NODES) {
        nodes++;
      } else {
        refuse();
      }
    }

    private int beginNode(int kind, int first) {
      int node = cursor;
      countNode();
      drafts.begin(node, kind);
      drafts.setFirst(node, first);
      take(node);
      return node;
    }

    private int expression(int depth) {
      if (depth > MAX_DEPTH) {
        refuse();
        return NONE;
      }
      switch (current()) {
        case FN: return function(depth);
        case LET: return let(depth);
        case IF: return choice(depth);
        default: return comparison(depth);
      }
    }

    private int function(int depth) {
      int node = beginNode(FN, NONE);
      expect(NAME, node);
      expect(ARROW, node);
      drafts.setFirst(node, expressionInScope(node, depth));
      return node;
    }

    private int let(int depth) {
      int node = beginNode(LET, NONE);
      expect(NAME, node);
      expect(EQUALS, node);
      drafts.setFirst(node, expression(depth + 1));
      expect(IN, node);
      drafts.setSecond(node, expressionInScope(node, depth));
      return node;
    }

    private int expressionInScope(int binder, int depth) {
      if (scopeSize >= MAX_DEPTH) {
        refuse();
        return NONE;
      }
      scope[scopeSize] = binder;
      scopeSize++;
      int node = expression(depth + 1);
      scopeSize--;
      return node;
    }

    private int choice(int depth) {
      int node = beginNode(IF, NONE);
      drafts.setFirst(node, expression(depth + 1));
      expect(THEN, node);
      drafts.setSecond(node, expression(depth + 1));
      expect(ELSE, node);
      drafts.setThird(node, expression(depth + 1));
      return node;
    }

    private int comparison(int depth) {
      int left = sum(depth);
      if (current() != LESS) {
        return left;
      }
      int node = beginNode(LESS, left);
      drafts.setSecond(node, sum(depth));
      return node;
    }

    private int sum(int depth) {
      int left = call(depth);
      for (int i = 0; i <= MAX_NODES && current() == PLUS; i++) {
        left = beginNode(PLUS, left);
        drafts.setSecond(left, call(depth));
      }
      return left;
    }

    private int call(int depth) {
      int left = atom(depth);
      for (int i = 0; i <= MAX_NODES && current() == OPEN; i++) {
        left = beginNode(OPEN, left);
        drafts.setSecond(left, expression(depth + 1));
        expect(CLOSE, left);
      }
      return left;
    }

    private int atom(int depth) {
      int kind = current();
      switch (kind) {
        case NAME:
          return name();
        case NUMBER:
        case TRUE:
        case FALSE:
        case NOT:
        case FST:
        case SND:
          return beginNode(kind, NONE);
        case OPEN:
          return bracketed(depth);
        default:
          refuse();
          return NONE;
      }
    }

    private int name() {
      int node = beginNode(NAME, NONE);
      int binder = binderOf(node);
      drafts.setMeaning(node, binder);
      if (binder == NONE && unknown == NONE) {
        unknown = node;
      }
      return node;
    }

    private int binderOf(int name) {
      for (int i = Math.min(scopeSize, MAX_DEPTH) - 1; i >= 0; i--) {
        // A binder's name stands right behind its word.
        if (tokens.areSame(scope[i] + 1, name)) {
          return scope[i];
        }
      }
      return NONE;
    }

    private int bracketed(int depth) {
      int open = cursor;
      take(NONE);
      int inner = expression(depth + 1);
      if (current() == COMMA) {
        return pair(open, inner, depth);
      }
      expect(CLOSE, NONE);
      return inner;
    }

    private int pair(int open, int first, int depth) {
      countNode();
      drafts.begin(open, COMMA);
      drafts.setFirst(open, first);
      if (isPlace(open)) {
        owners[open] = open;
      }
      expect(COMMA, open);
      drafts.setSecond(open, expression(depth + 1));
      expect(CLOSE, open);
      return open;
    }
  }

  /** The nodes of a text under the numbers that the document gives them. */
  private static final class Tree {
    private final Nodes nodes = new Nodes(MAX_NODES);
    // The nodes of the exp behind a let's = are those from the next one on up to this one.
    private final int[] boundEnds = new int[MAX_NODES];
    // How many types the nodes ahead of each one have, with their names.
    private final int[] slots = new int[MAX_NODES + 1];
    private final int[] owners = new int[MAX_BYTES];
    private int size = 0;
    private int root = NONE;

    int size() {
      return size;
    }

    int root() {
      return root;
    }

    Nodes nodes() {
      return nodes;
    }

    int boundEnd(int let) {
      return let >= 0 && let < MAX_NODES ? boundEnds[let] : 0;
    }

    int slot(int node) {
      return node >= 0 && node <= MAX_NODES ? slots[node] : 0;
    }

    int ownerOf(int token) {
      return token >= 0 && token < MAX_BYTES ? owners[token] : NONE;
    }

    void gather(Tokens tokens, Parser parser) {
      size = 0;
      for (int t = 0; t < tokens.size() && t < MAX_BYTES; t++) {
        int owner = parser.owner(t);
        if (owner == t && size < MAX_NODES) {
          nodes.begin(size, parser.drafts().kind(t));
          owners[t] = size;
          size++;
        } else {
          owners[t] = ownerOf(owner);
        }
        if (tokens.kind(t) == IN && isNode(owners[t])) {
          boundEnds[owners[t]] = size;
        }
      }
      root = ownerOf(parser.root());
      linkNodes(tokens, parser);
      countSlots();
    }

    private void linkNodes(Tokens tokens, Parser parser) {
      Nodes drafts = parser.drafts();
      for (int t = 0; t < tokens.size(); t++) {
        if (parser.owner(t) == t) {
          int node = ownerOf(t);
          nodes.setFirst(node, ownerOf(drafts.first(t)));
          nodes.setSecond(node, ownerOf(drafts.second(t)));
          nodes.setThird(node, ownerOf(drafts.third(t)));
          nodes.setMeaning(node, ownerOf(drafts.meaning(t)));
        }
      }
    }

    private void countSlots() {
      slots[0] = 0;
      for (int n = 0; n < size && n < MAX_NODES; n++) {
        slots[n + 1] = slots[n] + (nodes.kind(n) == FN ? 2 : 1);
      }
    }

    private boolean isNode(int node) {
      return node >= 0 && node < size && node < MAX_NODES;
    }
  }

  /**
   * The text as copy 0, and the copies of exps of lets that its names ask for. The variables of a copy
   * stand in a row, in the order of its nodes; that of a fn's name is right behind the fn's own.
   */
  private static final class Copies {
    private final Tree tree;
    private final Nodes nodes;
    private final int[] lets = new int[MAX_VARIABLES];
    private final int[] bases = new int[MAX_VARIABLES];
    // The copy in which the let stands: there are the types of names of fns around it.
    private final int[] homes = new int[MAX_VARIABLES];
    // What the type of a name is the same as, by the name's variable.
    private final int[] targets = new int[MAX_VARIABLES];
    private int size = 0;
    private int variables = 0;

    Copies(Tree tree) {
      this.tree = tree;
      this.nodes = tree.nodes();
    }

    int size() {
      return size;
    }

    int variables() {
      return variables;
    }

    int target(int variable) {
      return variable >= 0 && variable < MAX_VARIABLES ? targets[variable] : NONE;
    }

    int firstNode(int copy) {
      return isCopy(copy) ? lets[copy] + 1 : 0;
    }

    int endNode(int copy) {
      return isCopy(copy) && lets[copy] != NONE ? tree.boundEnd(lets[copy]) : tree.size();
    }

    int variable(int copy, int node) {
      return isCopy(copy) ? bases[copy] + tree.slot(node) - tree.slot(firstNode(copy)) : NONE;
    }

    /** Finds all copies; false if they have more variables than there may be. */
    boolean unfold() {
      size = 0;
      variables = 0;
      boolean fits = add(NONE, NONE);
      for (int copy = 0; fits && copy < size && copy < MAX_VARIABLES; copy++) {
        for (int node = firstNode(copy); fits && node < endNode(copy); node++) {
          fits = nodes.kind(node) != NAME || follow(copy, node);
        }
      }
      return fits;
    }

    private boolean follow(int copy, int name) {
      int binder = nodes.meaning(name);
      int home = homeOf(binder, copy);
      int asked;
      if (nodes.kind(binder) == FN) {
        asked = variable(home, binder) + 1;
      } else if (add(binder, home)) {
        asked = variable(size - 1, nodes.first(binder));
      } else {
        return false;
      }
      int variable = variable(copy, name);
      if (variable >= 0 && variable < MAX_VARIABLES) {
        targets[variable] = asked;
      }
      return true;
    }

    private int homeOf(int binder, int copy) {
      int home = copy;
      for (int i = 0; i < MAX_VARIABLES && isCopy(home) && !holds(home, binder); i++) {
        home = homes[home];
      }
      return home;
    }

    private boolean holds(int copy, int node) {
      return node >= firstNode(copy) && node < endNode(copy);
    }

    private boolean add(int let, int home) {
      if (size >= MAX_VARIABLES) {
        return false;
      }
      lets[size] = let;
      bases[size] = variables;
      homes[size] = home;
      size++;
      variables += tree.slot(endNode(size - 1)) - tree.slot(firstNode(size - 1));
      return variables <= MAX_VARIABLES;
    }

    private boolean isCopy(int copy) {
      return copy >= 0 && copy < size && copy < MAX_VARIABLES;
    }
  }

  /** Types as cells, of which those that must be the same are linked. */
  private static final class Types {
    // A variable's own cell and at most four for what its node asks; int and bool.
    private static final int CELLS = 5 * MAX_VARIABLES + 2;

    private final int[] kinds = new int[CELLS];
    // Of a link the cell for which it stands; of a function or pair its first part.
    private final int[] lefts = new int[CELLS];
    private final int[] rights = new int[CELLS];
    private final int[] marks = new int[CELLS];
    private final int[] todo = new int[CELLS];
    private int size = 0;
    private int intCell = 0;
    private int boolCell = 0;

    /** Begins anew, with so many types of which nothing is known. */
    void begin(int variables) {
      size = 0;
      for (int i = 0; i < variables; i++) {
        free();
      }
      intCell = add(INT, NONE, NONE);
      boolCell = add(BOOL, NONE, NONE);
    }

    int intCell() {
      return intCell;
    }

    int boolCell() {
      return boolCell;
    }

    int free() {
      return add(FREE, NONE, NONE);
    }

    int function(int from, int to) {
      return add(FUNCTION, from, to);
    }

    int pair(int first, int second) {
      return add(PAIR, first, second);
    }

    /** The type of fst, or of snd: a function from any pair to one of its parts. */
    int partFunction(boolean isFst) {
      int first = free();
      int second = free();
      return function(pair(first, second), isFst ? first : second);
    }

    int kind(int cell) {
      return cell >= 0 && cell < size ? kinds[cell] : FREE;
    }

    int left(int cell) {
      return cell >= 0 && cell < size ? lefts[cell] : NONE;
    }

    int right(int cell) {
      return cell >= 0 && cell < size ? rights[cell] : NONE;
    }

    int mark(int cell) {
      return cell >= 0 && cell < size ? marks[cell] : 0;
    }

    void setMark(int cell, int mark) {
      if (cell >= 0 && cell < size) {
        marks[cell] = mark;
      }
    }

    void clearMarks() {
      for (int c = 0; c < size && c < CELLS; c++) {
        marks[c] = 0;
      }
    }

    /** A row for work that is done before the next call: as long as there can be cells. */
    int[] scratch() {
      return todo;
    }

    /** The cell for which a cell stands in the end. */
    int rootOf(int cell) {
      int root = cell;
      for (int i = 0; i < CELLS && kind(root) == LINK; i++) {
        int next = left(root);
        if (kind(next) == LINK) {
          // Halves the way for all who come after.
          lefts[root] = left(next);
        }
        root = next;
      }
      return root;
    }

    /** Makes two types the same; false if their shapes are at odds. */
    boolean unify(int a, int b) {
      int waiting = push(a, b, 0);
      for (int step = 0; step < MANY_STEPS && waiting >= 2 && waiting <= CELLS; step++) {
        waiting -= 2;
        int x = rootOf(todo[waiting]);
        int y = rootOf(todo[waiting + 1]);
        if (x == y) {
          continue;
        }
        if (kind(x) == FREE) {
          link(x, y);
        } else if (kind(y) == FREE) {
          link(y, x);
        } else if (kind(x) != kind(y)) {
          return false;
        } else {
          waiting = unifyParts(x, y, waiting);
        }
      }
      return true;
    }

    /** Whether no type is a part of itself: those that are in no other one go, again and again. */
    boolean areFinite() {
      int terms = countUses();
      int gone = 0;
      int waiting = 0;
      for (int c = 0; c < size && c < CELLS; c++) {
        if (hasParts(kinds[c]) && marks[c] == 0 && waiting < CELLS) {
          todo[waiting] = c;
          waiting++;
        }
      }
      while (gone < waiting && gone < CELLS) {
        int cell = todo[gone];
        gone++;
        waiting = loseUse(rootOf(left(cell)), waiting);
        waiting = loseUse(rootOf(right(cell)), waiting);
      }
      return gone == terms;
    }

    private int countUses() {
      clearMarks();
      int terms = 0;
      for (int c = 0; c < size && c < CELLS; c++) {
        if (hasParts(kinds[c])) {
          terms++;
          int left = rootOf(lefts[c]);
          setMark(left, mark(left) + 1);
          int right = rootOf(rights[c]);
          setMark(right, mark(right) + 1);
        }
      }
      return terms;
    }

    private int loseUse(int cell, int waiting) {
      setMark(cell, mark(cell) - 1);
      if (!hasParts(kind(cell)) || mark(cell) != 0 || waiting >= CELLS) {
        return waiting;
      }
      todo[waiting] = cell;
      return waiting + 1;
    }

    private int unifyParts(int x, int y, int waiting) {
      if (!hasParts(kind(x))) {
        link(x, y);
        return waiting;
      }
      int left = left(x);
      int right = right(x);
      link(x, y);
      return push(left, left(y), push(right, right(y), waiting));
    }

    private int push(int a, int b, int waiting) {
      // The row is long enough: each function or pair that is linked lets two more cells wait, and of
      // a variable's five cells at most two are functions or pairs.
      if (waiting < 0 || waiting + 2 > CELLS) {
        return waiting;
      }
      todo[waiting] = a;
      todo[waiting + 1] = b;
      return waiting + 2;
    }

    private void link(int cell, int to) {
      if (cell >= 0 && cell < size) {
        kinds[cell] = LINK;
        lefts[cell] = to;
      }
    }

    private static boolean hasParts(int kind) {
      return kind == FUNCTION || kind == PAIR;
    }

    private int add(int kind, int left, int right) {
      if (size >= CELLS) {
        return NONE;
      }
      kinds[size] = kind;
      lefts[size] = left;
      rights[size] = right;
      size++;
      return size - 1;
    }
  }

  /** Tells which sets of nodes are fine. */
  private static final class Checker {
    private final Tree tree;
    private final Nodes nodes;
    private final Copies copies;
    private final Types types;
    private final boolean[] chosen = new boolean[MAX_NODES];

    Checker(Tree tree, Copies copies, Types types) {
      this.tree = tree;
      this.nodes = tree.nodes();
      this.copies = copies;
      this.types = types;
    }

    boolean allFine() {
      chooseAll();
      return isFine();
    }

    /** Marks the slice of a text that has no type, and tells how many nodes are in it. */
    int cut(boolean[] slice) {
      chooseAll();
      int kept = 0;
      for (int k = 0; k < tree.size() && k < MAX_NODES && k < slice.length; k++) {
        chosen[k] = false;
        chosen[k] = isFine();
        slice[k] = chosen[k];
        kept += chosen[k] ? 1 : 0;
      }
      return kept;
    }

    private void chooseAll() {
      for (int k = 0; k < MAX_NODES; k++) {
        chosen[k] = true;
      }
    }

    private boolean isFine() {
      types.begin(copies.variables());
      for (int copy = 0; copy < copies.size(); copy++) {
        int end = copies.endNode(copy);
        for (int node = copies.firstNode(copy); node < end && node < MAX_NODES; node++) {
          if (node >= 0 && chosen[node] && !ask(copy, node)) {
            return false;
          }
        }
      }
      return types.areFinite();
    }

    private boolean ask(int copy, int node) {
      int own = copies.variable(copy, node);
      int first = copies.variable(copy, nodes.first(node));
      int second = copies.variable(copy, nodes.second(node));
      switch (nodes.kind(node)) {
        case NAME: return types.unify(own, copies.target(own));
        case NUMBER: return types.unify(own, types.intCell());
        case TRUE:
        case FALSE: return types.unify(own, types.boolCell());
        case NOT: return types.unify(own, types.function(types.boolCell(), types.boolCell()));
        case FST: return types.unify(own, types.partFunction(true));
        case SND: return types.unify(own, types.partFunction(false));
        case FN: return types.unify(own, types.function(own + 1, first));
        case LET: return types.unify(own, second);
        case IF:
          return types.unify(first, types.boolCell())
              && types.unify(own, second)
              && types.unify(own, copies.variable(copy, nodes.third(node)));
        case LESS:
          return types.unify(first, types.intCell())
              && types.unify(second, types.intCell())
              && types.unify(own, types.boolCell());
        case PLUS:
          return types.unify(first, types.intCell())
              && types.unify(second, types.intCell())
              && types.unify(own, types.intCell());
        case OPEN: return types.unify(first, types.function(second, own));
        case COMMA: return types.unify(own, types.pair(first, second));
        default: return true;
      }
    }
  }

  /** The bytes that are written for a text. */
  private static final class Output {
    private final byte[] bytes = new byte[MAX_WRITTEN];
    private int size = 0;
    private int taken = 0;

    void clear() {
      size = 0;
      taken = 0;
    }

    int left() {
      return size - taken;
    }

    boolean isFull() {
      return size >= MAX_WRITTEN;
    }

    void add(int c) {
      if (!isFull()) {
        bytes[size] = (byte) c;
        size++;
      }
    }

    void addText(String s) {
      for (int i = 0; i < s.length(); i++) {
        add(s.charAt(i));
      }
    }

    void addNumber(int n) {
      int power = 1;
      for (int digits = 1; digits < MAX_DIGITS && n / power >= 10; digits++) {
        power *= 10;
      }
      for (; power > 0; power /= 10) {
        add('0' + n / power % 10);
      }
    }

    long take() {
      int n = Math.min(left(), BYTES_A_FETCH);
      long answer = n;
      for (int i = 0; i < BYTES_A_FETCH; i++) {
        boolean isThere = i < n && taken < MAX_WRITTEN;
        answer = answer << 8 | (isThere ? bytes[taken] & 255 : 0);
        taken += isThere ? 1 : 0;
      }
      return answer;
    }
  }

  /**
   * Writes a type. The cells on the way from the whole to the part that is being written wait in a row,
   * each with its stage: how many of its parts have been begun.
   */
  private static final class TypeWriter {
    private static final int STAGES = 3;

    private final Types types;
    private final Output output;
    private final int[] way;
    private int depth = 0;
    private int letters = 0;

    TypeWriter(Types types, Output output) {
      this.types = types;
      this.output = output;
      way = types.scratch();
    }

    void write(int cell) {
      types.clearMarks();
      letters = 0;
      depth = 0;
      push(cell);
      for (int step = 0; step < MANY_STEPS && depth > 0 && !output.isFull(); step++) {
        writeNext();
      }
    }

    private void writeNext() {
      int top = pop();
      int cell = top / STAGES;
      int stage = top % STAGES;
      switch (types.kind(cell)) {
        case FUNCTION:
          writeFunction(cell, stage);
          break;
        case PAIR:
          writePair(cell, stage);
          break;
        case INT:
          output.addText("int");
          break;
        case BOOL:
          output.addText("bool");
          break;
        default:
          writeLetter(cell);
      }
    }

    private void writeFunction(int cell, int stage) {
      int from = types.rootOf(types.left(cell));
      boolean inBrackets = types.kind(from) == FUNCTION;
      if (stage == 0) {
        output.addText(inBrackets ? "(" : "");
        pushAgain(cell, 1);
        push(from);
      } else {
        output.addText(inBrackets ? ") -> " : " -> ");
        push(types.right(cell));
      }
    }

    private void writePair(int cell, int stage) {
      if (stage == 0) {
        output.addText("(");
        pushAgain(cell, 1);
        push(types.left(cell));
      } else if (stage == 1) {
        output.addText(", ");
        pushAgain(cell, 2);
        push(types.right(cell));
      } else {
        output.addText(")");
      }
    }

    private void writeLetter(int cell) {
      if (types.mark(cell) == 0) {
        letters++;
        types.setMark(cell, letters);
      }
      int letter = types.mark(cell) - 1;
      output.add('a' + letter % 26);
      if (letter >= 26) {
        output.addNumber(letter / 26);
      }
    }

    private void push(int cell) {
      pushAgain(types.rootOf(cell), 0);
    }

    private void pushAgain(int cell, int stage) {
      if (depth < way.length) {
        way[depth] = cell * STAGES + stage;
        depth++;
      }
    }

    private int pop() {
      if (depth < 1 || depth > way.length) {
        return 0;
      }
      depth--;
      return way[depth];
    }
  }
}
