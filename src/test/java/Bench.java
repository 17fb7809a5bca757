import java.nio.charset.StandardCharsets;

/** What the tests share: feeding texts, starting threads, and counting answers that are not due. */
final class Bench {
  private int wrong = 0;
  private int asked = 0;
  private final String name;

  Bench(String name) {
    this.name = name;
  }

  void due(String call, long got, long want) {
    asked++;
    if (got != want) {
      wrong++;
      System.out.println(name + ": " + call + " answered " + got + ", due is " + want);
    }
  }

  /** The given answers joined by blanks against those due, so that a row of calls stands on one line. */
  void dueRow(String calls, String got, String want) {
    asked++;
    if (!got.equals(want)) {
      wrong++;
      System.out.println(name + ": " + calls + " answered [" + got + "], due is [" + want + "]");
    }
  }

  void close() {
    System.out.println(name + ": " + asked + " asked, " + wrong + " not as due");
    if (wrong != 0) {
      System.exit(1);
    }
  }

  /** Feeds a text of up to 800 characters 0 .. 255, whole. */
  static void feed(MaskedThrows x, String text) {
    byte[] bytes = text.getBytes(StandardCharsets.ISO_8859_1);
    for (int from = 0; from < bytes.length; from += 20) {
      int[] five = new int[5];
      for (int i = 0; i < 20; i++) {
        int b = from + i < bytes.length ? bytes[from + i] & 255 : 32;
        five[i / 4] = five[i / 4] << 8 | b;
      }
      x.feed(five[0], five[1], five[2], five[3], five[4]);
      if (from + 20 > bytes.length) {
        x.end(bytes.length - from);
      }
    }
  }

  static int program(MaskedThrows x, String text) {
    feed(x, text);
    return x.text();
  }

  /** A new object on which thread i does the i-th text. */
  static MaskedThrows running(String... texts) {
    MaskedThrows x = new MaskedThrows();
    for (int i = 0; i < texts.length; i++) {
      int p = program(x, texts[i]);
      if (p < 0 || x.start(i, p) != 1) {
        throw new IllegalStateException("not begun: " + texts[i] + " fault at " + x.place());
      }
    }
    return x;
  }

  /** The answers of turns of these threads, one digit a turn, '-' for NONE. */
  static String turns(MaskedThrows x, int... threads) {
    StringBuilder s = new StringBuilder();
    for (int thread : threads) {
      int answer = x.turn(thread);
      s.append(answer == MaskedThrows.NONE ? "-" : String.valueOf(answer));
    }
    return s.toString();
  }

  /** The answers of n turns of one thread. */
  static String times(MaskedThrows x, int thread, int n) {
    int[] threads = new int[n];
    java.util.Arrays.fill(threads, thread);
    return turns(x, threads);
  }

  /** All that thread(..) tells: state, strength, steps, row, bodies, withins, whether it holds. */
  static String told(MaskedThrows x, int thread) {
    StringBuilder s = new StringBuilder();
    for (int what = 0; what <= 6; what++) {
      s.append(what == 0 ? "" : " ").append(x.thread(thread, what));
    }
    return s.toString();
  }

  /** A thread's row: who, depth and value of each. */
  static String row(MaskedThrows x, int thread) {
    StringBuilder s = new StringBuilder();
    for (int i = 0; i < x.thread(thread, 3); i++) {
      s.append(i == 0 ? "" : " ");
      s.append(x.row(thread, i, 0)).append(':').append(x.row(thread, i, 1)).append(':').append(x.value(thread, i));
    }
    return s.toString();
  }

  /** The notes: kind/thread/clock=value of each. */
  static String notes(MaskedThrows x) {
    StringBuilder s = new StringBuilder();
    for (int i = 0; i < x.notes(); i++) {
      s.append(i == 0 ? "" : " ");
      s.append(x.note(i, 0)).append('/').append(x.note(i, 1)).append('/').append(x.note(i, 2));
      s.append('=').append(x.noted(i));
    }
    return s.toString();
  }
}
