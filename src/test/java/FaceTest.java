import java.lang.reflect.Constructor;
import java.lang.reflect.Field;
import java.lang.reflect.Method;
import java.lang.reflect.Modifier;
import java.util.TreeSet;

/** The public face is the document's, and nothing else of the class can be seen. */
public final class FaceTest {
  public static void main(String[] args) {
    Check.due("modifiers", Modifier.toString(ErrorSlices.class.getModifiers()), "public final");
    TreeSet<String> seen = new TreeSet<>();
    for (Constructor<?> c : ErrorSlices.class.getDeclaredConstructors()) {
      if (!Modifier.isPrivate(c.getModifiers())) {
        seen.add(c.toString());
      }
    }
    for (Method m : ErrorSlices.class.getDeclaredMethods()) {
      if (!Modifier.isPrivate(m.getModifiers())) {
        seen.add(m.toString());
      }
    }
    for (Field f : ErrorSlices.class.getDeclaredFields()) {
      if (!Modifier.isPrivate(f.getModifiers())) {
        seen.add(f.toString());
      }
    }
    TreeSet<String> due = new TreeSet<>();
    due.add("public ErrorSlices()");
    due.add("public boolean ErrorSlices.put(long,int)");
    due.add("public int ErrorSlices.judge()");
    due.add("public int ErrorSlices.place()");
    due.add("public boolean ErrorSlices.isIn(int)");
    due.add("public long ErrorSlices.fetch()");
    due.add("public int ErrorSlices.count(int)");
    Check.due("members", seen, due);
    Check.end();
  }
}
