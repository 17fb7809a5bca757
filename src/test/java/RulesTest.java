import java.io.IOException;
import java.lang.reflect.Constructor;
import java.lang.reflect.Field;
import java.lang.reflect.Method;
import java.lang.reflect.Modifier;
import java.nio.file.Files;
import java.nio.file.Path;
import java.util.Random;
import java.util.Set;
import java.util.TreeSet;
import java.util.regex.Matcher;
import java.util.regex.Pattern;

/** The document's face, what LANGUAGE.md rules out, and that no call throws for any arguments. */
public final class RulesTest {
  private static final Bench BENCH = new Bench("RulesTest");
  private static final String FACE = """
      int feed(int,int,int,int,int)
      int end(int)
      int text()
      int place()
      int told(int,int)
      int start(int,int)
      int turn(int)
      int play(long,int)
      int hurl(int,long)
      int fill(int,long)
      int full(int)
      long box(int)
      int thread(int,int)
      long died(int)
      long local(int,int)
      int row(int,int,int)
      long value(int,int)
      int stuck()
      int clock()
      int notes()
      int note(int,int)
      long noted(int)
      int clear()
      """;

  public static void main(String[] args) throws IOException, ReflectiveOperationException {
    face();
    insides();
    source();
    anyArguments();
    BENCH.close();
  }

  private static void face() {
    Class<?> c = MaskedThrows.class;
    BENCH.due("public and final", c.getModifiers() & (Modifier.PUBLIC | Modifier.FINAL), Modifier.PUBLIC | Modifier.FINAL);
    Set<String> due = new TreeSet<>(FACE.lines().toList());
    Set<String> names = new TreeSet<>();
    Set<String> got = new TreeSet<>();
    for (Method m : c.getDeclaredMethods()) {
      if (Modifier.isPublic(m.getModifiers())) {
        got.add(signature(m));
        names.add(m.getName());
      } else {
        BENCH.due("private " + m, Modifier.isPrivate(m.getModifiers()) ? 1 : 0, 1);
      }
    }
    BENCH.dueRow("the face", got.toString(), due.toString());
    for (Method m : c.getDeclaredMethods()) {
      BENCH.due("the name of " + m, !Modifier.isPublic(m.getModifiers()) && names.contains(m.getName()) ? 1 : 0, 0);
    }
    for (Class<?> nested : c.getDeclaredClasses()) {
      for (Method m : nested.getDeclaredMethods()) {
        BENCH.due("the name of " + m, names.contains(m.getName()) ? 1 : 0, 0);
      }
    }
    for (Field f : c.getDeclaredFields()) {
      boolean none = f.getName().equals("NONE");
      BENCH.due("field " + f, (none ? Modifier.isPublic(f.getModifiers()) : Modifier.isPrivate(f.getModifiers())) ? 1 : 0, 1);
    }
    Constructor<?>[] made = c.getDeclaredConstructors();
    BENCH.due("constructors", made.length, 1);
    BENCH.due("its parameters", made[0].getParameterCount(), 0);
    BENCH.due("NONE", MaskedThrows.NONE, -1);
  }

  private static String signature(Method m) {
    StringBuilder s = new StringBuilder(m.getReturnType() + " " + m.getName() + "(");
    for (Class<?> p : m.getParameterTypes()) {
      s.append(s.charAt(s.length() - 1) == '(' ? "" : ",").append(p);
    }
    return s + ")";
  }

  private static void insides() {
    Class<?>[] nested = MaskedThrows.class.getDeclaredClasses();
    BENCH.due("at most twelve classes", nested.length < 12 ? 1 : 0, 1);
    for (Class<?> c : nested) {
      BENCH.due("static " + c, Modifier.isStatic(c.getModifiers()) && !Modifier.isPublic(c.getModifiers()) ? 1 : 0, 1);
    }
    for (Class<?> c : nested) {
      int fields = 0;
      for (Field f : c.getDeclaredFields()) {
        fields += Modifier.isStatic(f.getModifiers()) ? 0 : 1;
      }
      BENCH.due("at most twenty fields in " + c, fields <= 20 ? 1 : 0, 1);
    }
    for (Field f : MaskedThrows.class.getDeclaredFields()) {
      int m = f.getModifiers();
      BENCH.due("static and final " + f, !Modifier.isStatic(m) || Modifier.isFinal(m) ? 1 : 0, 1);
    }
  }

  private static void source() throws IOException {
    String code = Files.readString(Path.of("src/main/java/MaskedThrows.java"))
        .replaceAll("\"[^\"\n]*\"", "\"\"")
        .replaceAll("(?s)/\\*.*?\\*/", "")
        .replaceAll("//[^\n]*", "");
    String[] ruledOut = {
      "throw", "throws", "try", "catch", "finally", "synchronized", "assert", "import", "package", "->", "::", "protected",
      "volatile", "native", "System.(?!arraycopy)", "Exact", "Thread\\.", "Object", "hashCode", "toString", "var",
    };
    for (String each : ruledOut) {
      Matcher m = Pattern.compile(each.matches("\\w+") ? "\\b" + each + "\\b" : each).matcher(code);
      BENCH.due("'" + each + "' in the source", m.find() ? 1 : 0, 0);
    }
    for (char c : code.toCharArray()) {
      if (c > 126) {
        BENCH.due("a byte of the source", c, 0);
      }
    }
  }

  private static final long[] ODD = {
    0, 1, 2, 3, 4, 5, 6, 7, 8, 9, 10, 11, 12, 13, 19, 20, 21, 40, 399, 400, 1999, 2000, 2001, -1, -2, -20,
    Integer.MIN_VALUE, Integer.MAX_VALUE, Integer.MIN_VALUE + 1, Integer.MAX_VALUE - 1, Long.MIN_VALUE, Long.MAX_VALUE,
  };

  /** Each object some 500 calls with arguments of all kinds; what it throws ends this test with its trace. */
  private static void anyArguments() throws ReflectiveOperationException {
    Random random = new Random(11);
    Method[] methods = MaskedThrows.class.getDeclaredMethods();
    for (int i = 0; i < 400; i++) {
      MaskedThrows x = new MaskedThrows();
      for (int p = 0; p < 3; p++) {
        String text = Script.text(Script.make(random, 25));
        feed(x, text.substring(0, Math.min(text.length(), 780)));
        x.text();
      }
      for (int t = 0; t < 5; t++) {
        x.start(t, random.nextInt(3));
      }
      for (int k = 0; k < 380; k++) {
        Method m = methods[random.nextInt(methods.length)];
        if (Modifier.isPublic(m.getModifiers()) && (!m.getName().equals("clear") || random.nextInt(20) == 0)) {
          m.invoke(x, arguments(random, m));
        }
      }
      BENCH.due("notes", x.notes() >= 0 && x.notes() <= 400 ? 1 : 0, 1);
    }
  }

  private static void feed(MaskedThrows x, String text) {
    String filled = text + " ".repeat(19);
    for (int from = 0; from < text.length(); from += 20) {
      int[] five = new int[5];
      for (int i = 0; i < 20; i++) {
        five[i / 4] = five[i / 4] << 8 | filled.charAt(from + i);
      }
      x.feed(five[0], five[1], five[2], five[3], five[4]);
    }
  }

  private static Object[] arguments(Random random, Method m) {
    Object[] made = new Object[m.getParameterCount()];
    for (int i = 0; i < made.length; i++) {
      boolean wide = m.getParameterTypes()[i] == long.class;
      long any = random.nextInt(3) == 0 ? ODD[random.nextInt(ODD.length)] : random.nextInt(7);
      any = random.nextInt(20) == 0 ? random.nextLong() : any;
      made[i] = wide ? (Object) any : (Object) (int) any;
    }
    return made;
  }
}
