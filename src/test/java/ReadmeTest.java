import java.io.IOException;
import java.lang.reflect.Method;
import java.nio.file.Files;
import java.nio.file.Path;
import java.util.regex.Matcher;
import java.util.regex.Pattern;

/** The lines of README.md's example, called one by one, answer what stands behind them. */
public final class ReadmeTest {
  private static final Pattern LINE = Pattern.compile("x\\.(\\w+)\\((.*)\\); +// (-?\\d+|true|false): .*");
  private static final int LINES = 18;
  private static final Due DUE = new Due("ReadmeTest");

  public static void main(String[] args) throws IOException, ReflectiveOperationException {
    WhichShelf x = new WhichShelf();
    int lines = 0;
    for (String line : Files.readAllLines(Path.of("README.md"))) {
      Matcher called = LINE.matcher(line);
      if (called.matches()) {
        lines++;
        String[] words = called.group(2).isEmpty() ? new String[0] : called.group(2).split(", ");
        String got = String.valueOf(answerOf(x, called.group(1), words));
        DUE.is(line + " .. " + got, got.equals(called.group(3)), true);
      }
    }
    DUE.is("lines of the example", lines, LINES);
    DUE.end();
  }

  private static Object answerOf(WhichShelf x, String name, String[] words) throws ReflectiveOperationException {
    for (Method method : WhichShelf.class.getMethods()) {
      if (method.getName().equals(name) && method.getDeclaringClass() == WhichShelf.class) {
        Class<?>[] types = method.getParameterTypes();
        Object[] values = new Object[words.length];
        for (int i = 0; i < words.length; i++) {
          values[i] = types[i] == boolean.class ? (Object) Boolean.valueOf(words[i]) : Integer.valueOf(words[i]);
        }
        return method.invoke(x, values);
      }
    }
    return "no such method";
  }
}
