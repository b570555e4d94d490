import java.lang.reflect.Method;
import java.nio.file.Files;
import java.nio.file.Path;
import java.util.TreeSet;
import java.util.regex.Matcher;
import java.util.regex.Pattern;

/** Makes the calls of README.md, each with the answer told behind it; run where README.md lies. */
public final class ReadmeTest {
  private static final Pattern TEXT = Pattern.compile("for \\(char c : \"([^\"]*)\"\\.toCharArray\\(\\)\\) \\{");
  private static final Pattern CALL = Pattern.compile("x\\.(\\w+)\\(([^)]*)\\); *// (-?\\d+)\\b.*");

  public static void main(String[] args) throws Exception {
    Check check = new Check("ReadmeTest");
    TreeSet<String> unseen = new TreeSet<>();
    for (Method m : AskAnotherFirst.class.getDeclaredMethods()) {
      if (java.lang.reflect.Modifier.isPublic(m.getModifiers())) {
        unseen.add(m.getName());
      }
    }
    unseen.remove("letter");
    AskAnotherFirst x = new AskAnotherFirst();
    boolean code = false;
    for (String line : Files.readAllLines(Path.of("README.md"))) {
      if (line.startsWith("```")) {
        code = line.equals("```java");
        continue;
      }
      Matcher text = TEXT.matcher(line);
      Matcher call = CALL.matcher(line);
      if (code && text.matches()) {
        Check.letters(x, text.group(1));
      } else if (code && call.matches()) {
        check.due(line, answer(x, call.group(1), call.group(2)), Integer.parseInt(call.group(3)));
        unseen.remove(call.group(1));
      } else if (code) {
        boolean known = line.equals("AskAnotherFirst x = new AskAnotherFirst();")
            || line.equals("  x.letter(c);") || line.equals("}");
        check.due("a row of code that this test does not know: " + line, known ? 1 : 0, 1);
      }
    }
    check.due("calls that README.md does not show: " + unseen, unseen.size(), 0);
    check.end();
  }

  private static int answer(AskAnotherFirst x, String name, String numbers) throws Exception {
    String[] told = numbers.isEmpty() ? new String[0] : numbers.split(", ");
    Class<?>[] types = new Class<?>[told.length];
    Object[] values = new Object[told.length];
    for (int i = 0; i < told.length; i++) {
      types[i] = int.class;
      values[i] = Integer.valueOf(told[i]);
    }
    return (int) AskAnotherFirst.class.getMethod(name, types).invoke(x, values);
  }
}
