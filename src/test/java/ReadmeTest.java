import java.io.IOException;
import java.lang.reflect.Method;
import java.lang.reflect.Modifier;
import java.nio.file.Files;
import java.nio.file.Path;
import java.util.List;
import java.util.regex.Matcher;
import java.util.regex.Pattern;

/** The calls that README.md shows give the answers that stand beside them, and it leaves out no call of the face. */
public final class ReadmeTest {
  private static final Pattern CALL = Pattern.compile("pool\\.(\\w+)\\((.*)\\);\\s+// (-?\\d+).*");

  private static final Check check = new Check();

  /** Begins in the directory of README.md, as .ci/run does. */
  public static void main(String[] args) throws IOException, ReflectiveOperationException {
    String readme = Files.readString(Path.of("README.md"));
    theExample(readme);
    allCalls(readme);
    check.end();
  }

  private static void theExample(String readme) throws ReflectiveOperationException {
    String begin = "```java\nMeterPool pool = new MeterPool();\n";
    int from = readme.indexOf(begin);
    check.holds("README.md has an example", from >= 0);
    if (from < 0) {
      return;
    }
    List<String> lines = readme.substring(from + begin.length()).lines().takeWhile(line -> !line.equals("```")).toList();
    check.holds("it has some calls", lines.size() > 20);
    MeterPool pool = new MeterPool();
    for (String line : lines) {
      Matcher call = CALL.matcher(line);
      check.holds("an answer stands beside " + line, call.matches());
      if (call.matches()) {
        check.due(line, answer(pool, call.group(1), call.group(2)), Long.parseLong(call.group(3)));
      }
    }
  }

  private static long answer(MeterPool pool, String name, String written) throws ReflectiveOperationException {
    String[] parts = written.isEmpty() ? new String[0] : written.split(", ");
    Class<?>[] types = new Class<?>[parts.length];
    Object[] values = new Object[parts.length];
    for (int i = 0; i < parts.length; i++) {
      types[i] = int.class;
      values[i] = parts[i].startsWith("'") ? (int) parts[i].charAt(1) : Integer.parseInt(parts[i]);
    }
    return ((Number) MeterPool.class.getMethod(name, types).invoke(pool, values)).longValue();
  }

  private static void allCalls(String readme) {
    for (Method method : MeterPool.class.getDeclaredMethods()) {
      if (Modifier.isPublic(method.getModifiers())) {
        check.holds("README.md tells of " + method.getName(), readme.contains("`" + method.getName() + "("));
      }
    }
  }
}
