import java.lang.reflect.Constructor;
import java.lang.reflect.Field;
import java.lang.reflect.Method;
import java.lang.reflect.Modifier;
import java.util.Arrays;
import java.util.TreeSet;

/** The public face is just that of the document. */
public final class FaceTest {
  private static final String[] FACE = {
    "letter(int)", "town()", "person(int,int)", "minutes(int,int)", "law(int)", "ask(int)",
    "day()", "may(int)", "run(int,int)", "runOf(int,int)", "ways(int)", "soonest(int,int)",
    "surest(int,int)", "longest(int,int)", "always(int)", "took(int,int,int)", "foe(int)",
    "switching(int)", "edge(int,int)", "two(int,int,int)", "tree(int,int)", "days(int,int)",
    "row(int)", "judge()", "image()", "on()", "count(int)"
  };

  public static void main(String[] args) {
    Check check = new Check("FaceTest");
    TreeSet<String> names = new TreeSet<>();
    TreeSet<String> open = new TreeSet<>();
    for (String call : FACE) {
      names.add(call.substring(0, call.indexOf('(')));
    }
    for (Method m : AskAnotherFirst.class.getDeclaredMethods()) {
      if (!Modifier.isPrivate(m.getModifiers())) {
        boolean plain = m.getModifiers() == Modifier.PUBLIC && m.getReturnType() == int.class;
        String types = "";
        for (Class<?> type : m.getParameterTypes()) {
          types += (types.isEmpty() ? "" : ",") + type.getName();
        }
        open.add((plain ? "" : "not public int: ") + m.getName() + "(" + types + ")");
      } else {
        check.due("private " + m.getName() + " bears a public name",
            names.contains(m.getName()) ? 1 : 0, 0);
      }
    }
    boolean same = open.equals(new TreeSet<>(Arrays.asList(FACE)));
    check.due("methods " + open, same ? 1 : 0, 1);
    for (Field f : AskAnotherFirst.class.getDeclaredFields()) {
      check.due(f.getName() + " is private", Modifier.isPrivate(f.getModifiers()) ? 1 : 0, 1);
    }
    Constructor<?>[] all = AskAnotherFirst.class.getDeclaredConstructors();
    check.due("constructors", all.length, 1);
    check.due("the public one", all[0].getModifiers(), Modifier.PUBLIC);
    check.due("its parameters", all[0].getParameterCount(), 0);
    check.due("class", AskAnotherFirst.class.getModifiers(), Modifier.PUBLIC | Modifier.FINAL);
    check.end();
  }
}
