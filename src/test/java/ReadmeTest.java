import java.io.IOException;
import java.nio.file.Files;
import java.nio.file.Path;
import java.util.List;

/** What README.md shows: the calls of its example, and the texts of its table with what is written for them. */
public final class ReadmeTest {
  private static final String EXAMPLE = "ErrorSlices slices = new ErrorSlices();";
  private static final String TABLE = "| Text | `judge` | Written |";

  private final List<String> lines;
  private int next = 0;

  private ReadmeTest(List<String> lines) {
    this.lines = lines;
  }

  public static void main(String[] args) throws IOException {
    ReadmeTest readme = new ReadmeTest(Files.readAllLines(Path.of("README.md")));
    readme.example();
    readme.beforeATextIsJudged();
    readme.textsOfTheTable();
    Check.end();
  }

  /** Goes behind a line that README.md must have. */
  private void goBehind(String line) {
    int at = lines.indexOf(line);
    Check.due("that README.md shows " + line, at >= 0, true);
    next = at < 0 ? lines.size() : at + 1;
  }

  private String nextLine() {
    next++;
    return next <= lines.size() ? lines.get(next - 1) : "";
  }

  /** The next line of the example shows this call, and begins its comment with this answer. */
  private void dueShown(String call, String answer) {
    String line = nextLine();
    String[] parts = line.split(" +// ");
    String shown = parts.length == 2 ? parts[1].split("[: ]")[0] : "nothing";
    Check.due("call of the example", parts[0], "slices." + call + ";");
    Check.due(call, answer, shown);
  }

  private static String hex(long word) {
    return word == 0 ? "0" : String.format("0x%016XL", word);
  }

  private void example() {
    goBehind(EXAMPLE);
    ErrorSlices slices = new ErrorSlices();
    dueShown("put(0x312B74727565L, 6)", "" + slices.put(0x312B74727565L, 6));
    dueShown("count(0)", "" + slices.count(0));
    dueShown("judge()", "" + slices.judge());
    dueShown("place()", "" + slices.place());
    dueShown("count(1)", "" + slices.count(1));
    dueShown("isIn(0)", "" + slices.isIn(0));
    dueShown("isIn(1)", "" + slices.isIn(1));
    dueShown("count(4)", "" + slices.count(4));
    dueShown("fetch()", hex(slices.fetch()));
    dueShown("fetch()", hex(slices.fetch()));
    dueShown("fetch()", hex(slices.fetch()));
    Check.due("end of the example", nextLine(), "```");
  }

  private void beforeATextIsJudged() {
    ErrorSlices slices = new ErrorSlices();
    Check.due("put", slices.put(0x31, 1), true);
    Check.due("place", slices.place(), -1);
    Check.due("isIn(0)", slices.isIn(0), false);
    Check.due("fetch", slices.fetch(), 0L);
    for (int what = 1; what <= 4; what++) {
      Check.due("count(" + what + ")", slices.count(what), 0);
    }
  }

  private void textsOfTheTable() {
    goBehind(TABLE);
    Check.due("line below the table's head", nextLine(), "| --- | --- | --- |");
    String row = nextLine();
    Check.due("that the table has rows", row.isEmpty(), false);
    while (!row.isEmpty()) {
      String[] cells = row.replace("`", "").split(" *\\| *");
      Check.due("cells of " + row, cells.length, 4);
      if (cells.length == 4) {
        ErrorSlices slices = Check.judged(cells[1], Integer.parseInt(cells[2]));
        Check.due("written for " + cells[1], Check.written(slices), cells[3]);
      }
      row = nextLine();
    }
  }
}
