import java.nio.charset.StandardCharsets;
import java.util.Arrays;

/** What the tests share: feeding texts, starting threads, and counting answers that are not due. */
final class Bench {
  /** Numbers that are none of anything, whatever is asked for. */
  static final int[] FAR = {Integer.MIN_VALUE, Integer.MIN_VALUE + 1, -2, -1, Integer.MAX_VALUE - 1, Integer.MAX_VALUE};

  private int wrong = 0;
  private int asked = 0;
  private int sentences = 0;
  private String sentence = "";
  private final String name;

  Bench(String name) {
    this.name = name;
  }

  /** Names what is asked from here on: a sentence of the document. */
  void sentence(String words) {
    sentences++;
    sentence = " [" + words + "]";
  }

  void due(String call, long got, long want) {
    asked++;
    if (got != want) {
      wrong++;
      System.out.println(name + sentence + ": " + call + " answered " + got + ", due is " + want);
    }
  }

  /** The given answers joined by blanks against those due, so that a row of calls stands on one line. */
  void dueRow(String calls, String got, String want) {
    asked++;
    if (!got.equals(want)) {
      wrong++;
      System.out.println(name + sentence + ": " + calls + " answered [" + got + "], due is [" + want + "]");
    }
  }

  void close() {
    String told = sentences == 0 ? "" : sentences + " sentences, ";
    System.out.println(name + ": " + told + asked + " asked, " + wrong + " not as due");
    if (wrong != 0) {
      System.exit(1);
    }
  }

  /** The text has a FAULT there; NONE: it has none. */
  void fault(String text, int place) {
    Lasting x = new Lasting();
    boolean fine = place == MaskedThrows.NONE;
    due("text() of " + text, program(x, text), fine ? 0 : -2);
    due("place() of " + text, x.place(), place);
    due("told(0, 0) of " + text, x.told(0, 0) == MaskedThrows.NONE ? 1 : 0, fine ? 0 : 1);
  }

  /** The text has a FAULT where the first '@' stands in it (that sign is taken out). */
  void faultAt(String marked) {
    int at = marked.indexOf('@');
    fault(marked.substring(0, at) + marked.substring(at + 1), at);
  }

  /** The text has no FAULT, and this many statements, unaries, and bodies within one another. */
  void fine(String text, int statements, int unaries, int bodies) {
    Lasting x = new Lasting();
    due("text() of " + text, program(x, text), 0);
    due("place() of " + text, x.place(), MaskedThrows.NONE);
    due("told(0, 0) of " + text, x.told(0, 0), statements);
    due("told(0, 1) of " + text, x.told(0, 1), unaries);
    due("told(0, 2) of " + text, x.told(0, 2), bodies);
  }

  /** Feeds a text of up to 800 characters 0 .. 255, whole. */
  static void feed(Lasting x, String text) {
    byte[] bytes = text.getBytes(StandardCharsets.ISO_8859_1);
    for (int from = 0; from < bytes.length; from += 20) {
      int[] five = new int[5];
      for (int i = 0; i < 20; i++) {
        int b = from + i < bytes.length ? bytes[from + i] & 255 : 32;
        five[i / 4] = five[i / 4] << 8 | b;
      }
      x.feed(five[0], five[1], five[2], five[3], five[4]);
      if (from + 20 > bytes.length) {
        x.end(bytes.length - from);
      }
    }
  }

  /** Twenty times the same byte. */
  static int feedAll(Lasting x, int b) {
    int four = b * 0x01010101;
    return x.feed(four, four, four, four, four);
  }

  static int program(Lasting x, String text) {
    feed(x, text);
    return x.text();
  }

  /** A new object on which thread i does the i-th text. */
  static Lasting running(String... texts) {
    Lasting x = new Lasting();
    for (int i = 0; i < texts.length; i++) {
      int p = program(x, texts[i]);
      if (p < 0 || x.start(i, p) != 1) {
        throw new IllegalStateException("not begun: " + texts[i] + " fault at " + x.place());
      }
    }
    return x;
  }

  /** The answers of turns of these threads, one digit a turn, '-' for NONE. */
  static String turns(Lasting x, int... threads) {
    StringBuilder s = new StringBuilder();
    for (int thread : threads) {
      int answer = x.turn(thread);
      s.append(answer == MaskedThrows.NONE ? "-" : String.valueOf(answer));
    }
    return s.toString();
  }

  /** The answers of n turns of one thread. */
  static String times(Lasting x, int thread, int n) {
    int[] threads = new int[n];
    Arrays.fill(threads, thread);
    return turns(x, threads);
  }

  /** All that thread(..) tells: state, strength, steps, row, bodies, withins, whether it holds. */
  static String told(Lasting x, int thread) {
    StringBuilder s = new StringBuilder();
    for (int what = 0; what <= 6; what++) {
      s.append(what == 0 ? "" : " ").append(x.thread(thread, what));
    }
    return s.toString();
  }

  /** A thread's row: who, depth and value of each. */
  static String row(Lasting x, int thread) {
    StringBuilder s = new StringBuilder();
    for (int i = 0; i < x.thread(thread, 3); i++) {
      s.append(i == 0 ? "" : " ");
      s.append(x.row(thread, i, 0)).append(':').append(x.row(thread, i, 1)).append(':').append(x.value(thread, i));
    }
    return s.toString();
  }

  /** A thread's locals, q to z. */
  static String locals(Lasting x, int thread) {
    StringBuilder s = new StringBuilder();
    for (int letter = 0; letter < 10; letter++) {
      s.append(letter == 0 ? "" : " ").append(x.local(thread, letter));
    }
    return s.toString();
  }

  /** The notes: kind/thread/clock=value of each. */
  static String notes(Lasting x) {
    StringBuilder s = new StringBuilder();
    for (int i = 0; i < x.notes(); i++) {
      s.append(i == 0 ? "" : " ");
      s.append(x.note(i, 0)).append('/').append(x.note(i, 1)).append('/').append(x.note(i, 2));
      s.append('=').append(x.noted(i));
    }
    return s.toString();
  }

  /** All that can be asked of an object, but its tape. */
  static String all(Lasting x) {
    StringBuilder s = new StringBuilder();
    for (int p = 0; p < 12; p++) {
      s.append(x.told(p, 0)).append(' ').append(x.told(p, 1)).append(' ').append(x.told(p, 2)).append(", ");
    }
    return s.append(x.place()).append(", ").append(world(x)).toString();
  }

  /** All that can be asked of the threads, boxes, notes and the clock. */
  static String world(Lasting x) {
    StringBuilder s = new StringBuilder();
    for (int t = 0; t < 6; t++) {
      s.append(told(x, t)).append(' ').append(x.died(t)).append(' ').append(row(x, t)).append(' ').append(locals(x, t)).append(", ");
    }
    for (int box = 0; box < 8; box++) {
      s.append(x.full(box)).append(' ').append(x.box(box)).append(", ");
    }
    return s.append(x.clock()).append(' ').append(x.stuck()).append(' ').append(notes(x)).toString();
  }
}
