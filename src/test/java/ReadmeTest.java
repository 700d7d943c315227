import java.io.IOException;
import java.lang.reflect.Method;
import java.nio.file.Files;
import java.nio.file.Path;
import java.util.HashMap;
import java.util.Map;
import java.util.regex.Matcher;
import java.util.regex.Pattern;

/** The lines of README.md's example are made on an object, in their order: each answers what stands behind it. */
public final class ReadmeTest {
  private static final Pattern CALL =
      Pattern.compile("(int|long) (\\w+) = house\\.(\\w+)\\((.*)\\);\\s+// (-?\\d+)(: .*)?");
  private static final int CALLS_LEAST = 40;

  private static final Map<String, Long> named = new HashMap<>();
  private static final NineBreakages house = new NineBreakages();

  private ReadmeTest() {}

  public static void main(String[] args) throws IOException, ReflectiveOperationException {
    int calls = 0;
    for (String line : Files.readAllLines(Path.of("README.md"))) {
      Matcher call = CALL.matcher(line);
      boolean is = call.matches();
      Due.is("a call is written as one: " + line, is ? 1 : 0, line.contains(" = house.") ? 1 : 0);
      if (is) {
        make(call, line);
        calls++;
      }
    }
    Due.is("README.md has an example", calls >= CALLS_LEAST ? 1 : 0, 1);
    Due.end("ReadmeTest");
  }

  private static void make(Matcher call, String line) throws ReflectiveOperationException {
    Method method = methodOf(call.group(3));
    String[] words = call.group(4).isEmpty() ? new String[0] : call.group(4).split(", ");
    Object[] values = new Object[words.length];
    for (int i = 0; i < words.length; i++) {
      values[i] = valueOf(words[i], method.getParameterTypes()[i]);
    }
    Number answer = (Number) method.invoke(house, values);
    Due.is(line, answer.longValue(), Long.parseLong(call.group(5)));
    Due.is("the type of " + line, call.group(1).equals(method.getReturnType().getName()) ? 1 : 0, 1);
    named.put(call.group(2), answer.longValue());
  }

  private static Method methodOf(String name) {
    for (Method method : NineBreakages.class.getMethods()) {
      if (method.getName().equals(name)) {
        return method;
      }
    }
    throw new IllegalArgumentException("README.md calls what there is not: " + name);
  }

  private static Object valueOf(String word, Class<?> type) {
    Long known = named.get(word);
    long value = known != null ? known : Long.decode(word.replaceAll("L$", ""));
    return type == long.class ? (Object) value : (Object) (int) value;
  }
}
