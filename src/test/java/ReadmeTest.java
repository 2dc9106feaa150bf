import java.io.IOException;
import java.lang.reflect.InvocationTargetException;
import java.lang.reflect.Method;
import java.nio.file.Files;
import java.nio.file.Path;
import java.util.ArrayList;
import java.util.HashMap;
import java.util.List;
import java.util.Map;
import java.util.regex.Matcher;
import java.util.regex.Pattern;

/** The run of calls that README.md shows answers what is written there, line by line. */
public final class ReadmeTest {
  private static final String MAKING = "KitchenSpits kitchen = new KitchenSpits();";
  private static final Pattern CALL = Pattern.compile(
      "(?:int (\\w+) = )?kitchen\\.(\\w+)\\(([^)]*)\\); +// ((?:throws )?[^:]+)(?:: .*)?");

  private static final Checks CHECKS = new Checks();

  public static void main(String[] args) throws IOException, IllegalAccessException {
    List<String> run = runOf(Files.readAllLines(Path.of("README.md")));
    CHECKS.due("README.md shows a run of calls", run.size() > 1, true);
    CHECKS.dueText("its first line", run.isEmpty() ? "" : run.get(0), MAKING);
    KitchenSpits kitchen = new KitchenSpits();
    Map<String, Integer> named = new HashMap<>();
    for (String line : run.subList(Math.min(1, run.size()), run.size())) {
      check(kitchen, named, line);
    }
    CHECKS.end("ReadmeTest");
  }

  /** The lines of the first block of Java. */
  private static List<String> runOf(List<String> readme) {
    List<String> run = new ArrayList<>();
    int start = readme.indexOf("```java");
    for (int i = start + 1; start >= 0 && i < readme.size() && !readme.get(i).equals("```"); i++) {
      run.add(readme.get(i));
    }
    return run;
  }

  private static void check(KitchenSpits kitchen, Map<String, Integer> named, String line)
      throws IllegalAccessException {
    Matcher parts = CALL.matcher(line);
    if (!parts.matches()) {
      CHECKS.dueText("a line of README.md", line, "a call with its answer");
      return;
    }
    String answer = answer(kitchen, parts.group(2), numbersOf(named, parts.group(3)));
    CHECKS.dueText("README.md: " + line, answer, parts.group(4));
    if (parts.group(1) != null) {
      named.put(parts.group(1), Integer.valueOf(answer));
    }
  }

  private static Object[] numbersOf(Map<String, Integer> named, String arguments) {
    List<Object> numbers = new ArrayList<>();
    for (String argument : arguments.isEmpty() ? new String[0] : arguments.split(", ")) {
      numbers.add(named.containsKey(argument) ? named.get(argument) : Integer.valueOf(argument));
    }
    return numbers.toArray();
  }

  private static String answer(KitchenSpits kitchen, String name, Object[] numbers)
      throws IllegalAccessException {
    for (Method method : KitchenSpits.class.getMethods()) {
      if (method.getName().equals(name) && method.getParameterCount() == numbers.length) {
        try {
          return String.valueOf(method.invoke(kitchen, numbers));
        } catch (InvocationTargetException thrown) {
          return "throws " + thrown.getCause().getClass().getSimpleName();
        }
      }
    }
    return "no such call";
  }
}
