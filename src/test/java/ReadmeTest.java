import java.io.IOException;
import java.lang.reflect.Method;
import java.nio.charset.StandardCharsets;
import java.nio.file.Files;
import java.nio.file.Path;
import java.util.HashSet;
import java.util.List;
import java.util.Set;
import java.util.regex.Matcher;
import java.util.regex.Pattern;

/** What README.md says: its examples' answers, its reader of texts, and that it tells of every call. */
public final class ReadmeTest {
  private static final Bench BENCH = new Bench("ReadmeTest");
  private static final Path README = Path.of("README.md");
  private static final Path SELF = Path.of("src/test/java/ReadmeTest.java");
  private static final Pattern NEW = Pattern.compile("MaskedThrows x = new MaskedThrows\\(\\);");
  private static final Pattern READ = Pattern.compile("(?:int \\w+ = )?read\\(x, \"(.*)\"\\); *// (-?\\d+)\\b.*");
  private static final Pattern CALL = Pattern.compile("(?:int \\w+ = )?x\\.(\\w+)\\(([^)]*)\\); *// (-?\\d+)\\b.*");

  private MaskedThrows x = new MaskedThrows();
  private int calls;

  public static void main(String[] args) throws IOException, ReflectiveOperationException {
    List<String> readme = Files.readAllLines(README, StandardCharsets.UTF_8);
    new ReadmeTest().examples(readme);
    reader(readme);
    everyCall(readme);
    BENCH.close();
  }

  /** Each line of an example that tells a number behind '//' is a call with that answer. */
  private void examples(List<String> readme) throws ReflectiveOperationException {
    for (String line : readme) {
      Matcher read = READ.matcher(line);
      Matcher call = CALL.matcher(line);
      if (NEW.matcher(line).lookingAt()) {
        x = new MaskedThrows();
      } else if (read.matches()) {
        answer(line, read(x, read.group(1)), read.group(2));
      } else if (call.matches()) {
        answer(line, called(call.group(1), call.group(2)), call.group(3));
      } else {
        BENCH.due("a line without an answer: " + line, line.startsWith("x.") ? 1 : 0, 0);
      }
    }
    BENCH.due("calls in examples", calls > 20 ? 1 : 0, 1);
  }

  private void answer(String line, long got, String due) {
    calls++;
    BENCH.due(line, got, Long.parseLong(due));
  }

  private long called(String name, String arguments) throws ReflectiveOperationException {
    for (Method method : MaskedThrows.class.getDeclaredMethods()) {
      if (method.getName().equals(name)) {
        String[] words = arguments.isEmpty() ? new String[0] : arguments.split(", ");
        Object[] values = new Object[words.length];
        for (int i = 0; i < words.length; i++) {
          long value = Long.decode(words[i]);
          boolean isLong = method.getParameterTypes()[i] == long.class;
          values[i] = isLong ? (Object) value : (Object) (int) value;
        }
        return ((Number) method.invoke(x, values)).longValue();
      }
    }
    throw new IllegalStateException("no such call: " + name);
  }

  static int read(MaskedThrows x, String text) {
    for (int from = 0; from < text.length(); from += 20) {
      int[] five = new int[5];
      for (int i = 0; i < 20; i++) {
        int b = from + i < text.length() ? text.charAt(from + i) : ' ';
        five[i / 4] = five[i / 4] << 8 | b;
      }
      x.feed(five[0], five[1], five[2], five[3], five[4]);
      x.end(Math.min(20, text.length() - from));
    }
    return x.text();
  }

  /** The reader of texts that README.md gives is the one above, word for word. */
  private static void reader(List<String> readme) throws IOException {
    List<String> self = Files.readAllLines(SELF, StandardCharsets.UTF_8);
    int begin = self.indexOf("  static int read(MaskedThrows x, String text) {");
    int end = begin + self.subList(begin, self.size()).indexOf("  }");
    int there = readme.indexOf(self.get(begin).strip());
    for (int i = begin; i <= end && there >= 0; i++) {
      BENCH.dueRow("the reader's line", readme.get(there + i - begin).strip(), self.get(i).strip());
    }
    BENCH.due("README.md has the reader", there >= 0 ? 1 : 0, 1);
  }

  private static void everyCall(List<String> readme) {
    Set<String> told = new HashSet<>();
    Matcher row = Pattern.compile("(?m)^\\| `(?:int|long) (\\w+)\\(").matcher(String.join("\n", readme));
    while (row.find()) {
      told.add(row.group(1));
    }
    for (Method method : MaskedThrows.class.getDeclaredMethods()) {
      if (java.lang.reflect.Modifier.isPublic(method.getModifiers())) {
        BENCH.due("README.md tells of " + method.getName(), told.contains(method.getName()) ? 1 : 0, 1);
      }
    }
  }
}
