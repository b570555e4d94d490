import java.io.PrintWriter;
import java.io.StringWriter;
import java.lang.reflect.Field;
import java.lang.reflect.Method;
import java.lang.reflect.Modifier;
import java.nio.file.Files;
import java.nio.file.Path;
import java.util.ArrayList;
import java.util.List;
import java.util.Map;
import java.util.Optional;
import java.util.Set;
import java.util.TreeMap;
import java.util.TreeSet;
import java.util.regex.Matcher;
import java.util.regex.Pattern;
import java.util.spi.ToolProvider;

/** What of ../shared/LANGUAGE.md can be looked up in the source and in what javac made of it. */
public final class LanguageTest {
  private static final Check CHECK = new Check("LanguageTest");
  private static final Path SOURCE = Path.of("src/main/java/AskAnotherFirst.java");
  private static final int MOST_DEEP = 8;
  private static final int MOST_CLASSES = 12;
  private static final int MOST_FIELDS = 20;
  private static final int MOST_PARAMETERS = 7;
  private static final int MOST_LINES = 60;
  private static final Set<Class<?>> OF_CONSTANTS =
      Set.of(int.class, long.class, boolean.class, char.class, String.class);
  private static final Set<String> LIBRARY = Set.of("java/lang/Object.\"<init>\":()V",
      "java/lang/Integer.bitCount:(I)I", "java/lang/Math.max:(II)I", "java/lang/String.indexOf:(I)I",
      "java/lang/System.arraycopy:(Ljava/lang/Object;ILjava/lang/Object;II)V");
  private static final Pattern HEADER = Pattern.compile("  (?:[a-z]+ )*(?:[\\w$.\\[\\]]+ )?([\\w$]+)\\(.*\\);");
  private static final Pattern CALLED = Pattern.compile("// (?:Interface)?Method (?:([\\w$/]+)\\.)?([\\w$\"<>]+):(.*)$");

  // Who calls whom: each as class.method.
  private static final Map<String, Set<String>> CALLS = new TreeMap<>();

  public static void main(String[] args) throws Exception {
    List<Class<?>> all = new ArrayList<>(List.of(AskAnotherFirst.class));
    all.addAll(List.of(AskAnotherFirst.class.getDeclaredClasses()));
    CHECK.due("classes in the file", Math.max(all.size(), MOST_CLASSES), MOST_CLASSES);
    Optional<ToolProvider> javap = ToolProvider.findFirst("javap");
    if (javap.isEmpty()) {
      System.out.println("LanguageTest: this java has no javap, so that nobody looks who calls whom");
    }
    for (Class<?> one : all) {
      faceOf(one);
      if (javap.isPresent()) {
        codeOf(one, javap.get());
      }
    }
    for (String method : CALLS.keySet()) {
      int deep = depth(method, new ArrayList<>());
      CHECK.due("calls from " + method + " go at most eight deep", Math.max(deep, MOST_DEEP), MOST_DEEP);
    }
    source(Files.readAllLines(SOURCE));
    CHECK.end();
  }

  private static void never(String what, boolean is) {
    CHECK.due(what, is ? 1 : 0, 0);
  }

  // Rules 1, 2, 5, 6 and 11.

  private static void faceOf(Class<?> one) {
    boolean inside = one != AskAnotherFirst.class;
    int modifiers = one.getModifiers();
    never(one + " is no private static class", inside && !(Modifier.isPrivate(modifiers) && Modifier.isStatic(modifiers)));
    int fields = 0;
    for (Field f : one.getDeclaredFields()) {
      boolean isStatic = Modifier.isStatic(f.getModifiers());
      fields += isStatic ? 0 : 1;
      never(f + " is static and no constant", isStatic
          && !(Modifier.isFinal(f.getModifiers()) && OF_CONSTANTS.contains(f.getType())));
    }
    CHECK.due("fields of " + one, Math.max(fields, MOST_FIELDS), MOST_FIELDS);
    for (Method m : one.getDeclaredMethods()) {
      CHECK.due("parameters of " + m, Math.max(m.getParameterCount(), MOST_PARAMETERS), MOST_PARAMETERS);
      never(m + " is told to throw", m.getExceptionTypes().length != 0);
      never(m + " is of Object", Set.of("equals", "hashCode", "toString").contains(m.getName()));
    }
  }

  // Rules 4, 6, 10 and 12, and who calls whom.

  private static void codeOf(Class<?> one, ToolProvider javap) {
    StringWriter out = new StringWriter();
    PrintWriter to = new PrintWriter(out);
    javap.run(to, to, "-c", "-p", "-cp", System.getProperty("java.class.path"), one.getName());
    String method = "none";
    for (String line : out.toString().split("\\R")) {
      Matcher header = HEADER.matcher(line);
      Matcher called = CALLED.matcher(line);
      if (header.matches()) {
        method = one.getName() + "." + header.group(1);
        CALLS.putIfAbsent(method, new TreeSet<>());
      } else if (called.find()) {
        call(one, method, called);
      }
      boolean inConstructor = method.equals(one.getName() + "." + one.getName());
      never(method + " makes an object: " + line, !inConstructor && line.matches(".*: (new|\\w*newarray) .*"));
      never(method + ": " + line, line.matches(".*(athrow|invokedynamic|monitor|checkcast|Exception table|static \\{\\}).*"));
    }
    never("no code of " + one, method.equals("none"));
  }

  private static void call(Class<?> one, String method, Matcher called) {
    String owner = called.group(1) == null ? one.getName() : called.group(1);
    if (owner.startsWith("java/")) {
      String whole = owner + "." + called.group(2) + ":" + called.group(3);
      never(method + " calls " + whole, !LIBRARY.contains(whole));
    } else {
      String name = called.group(2).equals("\"<init>\"") ? owner : called.group(2);
      CALLS.computeIfAbsent(method, m -> new TreeSet<>()).add(owner + "." + name);
    }
  }

  // Rules 8 and 11.

  /** How deep calls go from the method, itself counted; a method that calls itself is counted once. */
  private static int depth(String method, List<String> open) {
    int deepest = 0;
    open.add(method);
    for (String next : CALLS.getOrDefault(method, Set.of())) {
      if (next.equals(method)) {
        carriesDepth(method);
      } else if (open.contains(next)) {
        never(method + " and " + next + " call one another", true);
      } else {
        deepest = Math.max(deepest, depth(next, open));
      }
    }
    open.remove(method);
    return deepest + 1;
  }

  private static void carriesDepth(String method) {
    String name = method.substring(method.indexOf('.') + 1);
    boolean found = false;
    for (Method m : AskAnotherFirst.class.getDeclaredMethods()) {
      boolean fits = Modifier.isPrivate(m.getModifiers()) && Modifier.isStatic(m.getModifiers());
      found |= m.getName().equals(name) && fits && m.getParameterTypes()[m.getParameterCount() - 1] == int.class;
    }
    never(method + " calls itself, and is no private static method of the class that carries its depth", !found);
  }

  // Rules 1, 6, 10 and 11, by the words of the source.

  private static void source(List<String> lines) {
    Pattern words = Pattern.compile("\\b(throw|try|catch|synchronized|assert|import|package|instanceof|interface"
        + "|protected|double|float|while \\(true\\))\\b|->|::|for \\(;");
    Pattern method = Pattern.compile("( +)(?!if|for|while|do|switch|else)[a-z]\\w* .*\\) \\{");
    for (int i = 0; i < lines.size(); i++) {
      String line = lines.get(i);
      never("a sign that is not 1 to 127: " + line, !line.chars().allMatch(c -> c >= 1 && c <= 127));
      boolean comment = line.strip().matches("(//|/?\\*).*");
      never("a word that is left out of the language: " + line, !comment && words.matcher(line).find());
      Matcher start = method.matcher(line);
      if (start.matches()) {
        int end = lines.subList(i, lines.size()).indexOf(start.group(1) + "}");
        never("too long or without an end: " + line, end < 0 || end >= MOST_LINES);
      }
    }
  }
}
