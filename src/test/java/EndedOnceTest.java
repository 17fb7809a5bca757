import java.util.Random;

/**
 * The document's first sentence over random programs: whatever comes, and when, what was begun is
 * ended once. Each use body that goes in has its one last body, and each thread its one end.
 */
public final class EndedOnceTest {
  private static final Bench BENCH = new Bench("EndedOnceTest");
  private static final int RUNS = Integer.getInteger("runs", 200);
  private static final int FIRST_SEED = Integer.getInteger("seed", 0);
  private static final int THREADS = 4;
  private static final int ROUNDS = 40;
  private static final int MOST_NOTES = 400;

  private final Random random;
  private final String run;
  private final Lasting x = new Lasting();
  private final int[] begun = new int[THREADS];
  private final int[] used = new int[THREADS];
  private final int[] undone = new int[THREADS];
  private final int[] ended = new int[THREADS];

  private EndedOnceTest(int seed) {
    random = new Random(seed);
    run = "run " + seed;
  }

  public static void main(String[] args) {
    BENCH.sentence("whatever comes, and when, what was begun is ended once");
    int pairs = 0;
    for (int seed = FIRST_SEED; seed < FIRST_SEED + RUNS; seed++) {
      EndedOnceTest test = new EndedOnceTest(seed);
      test.go();
      for (int last : test.undone) {
        pairs += last;
      }
    }
    BENCH.due("enough of them have been seen", pairs > RUNS ? 1 : 0, 1);
    BENCH.close();
  }

  private void go() {
    read();
    for (int round = 0; round < ROUNDS; round++) {
      for (int thread = 0; thread < THREADS; thread++) {
        begun[thread] += x.start(thread, random.nextInt(THREADS)) == 1 ? 1 : 0;
      }
      x.hurl(random.nextInt(THREADS), random.nextInt(100));
      x.fill(random.nextInt(3), random.nextInt(100));
      x.play(random.nextLong(), random.nextInt(12));
      if (x.notes() == MOST_NOTES) {
        return;
      }
      count();
      compare(round);
    }
  }

  private void read() {
    int read = 0;
    while (read < THREADS) {
      String text = Script.text(Script.make(random, 8 + random.nextInt(22)));
      if (text.length() <= 800) {
        BENCH.due(run + " text " + text, Bench.program(x, text), read);
        read++;
      }
    }
  }

  private void count() {
    for (int thread = 0; thread < THREADS; thread++) {
      used[thread] = 0;
      undone[thread] = 0;
      ended[thread] = 0;
    }
    for (int i = 0; i < x.notes(); i++) {
      int kind = x.note(i, 0);
      int thread = x.note(i, 1);
      used[thread] += kind == 2 ? 1 : 0;
      undone[thread] += kind == 3 ? 1 : 0;
      ended[thread] += kind == 4 || kind == 5 ? 1 : 0;
    }
  }

  private void compare(int round) {
    for (int thread = 0; thread < THREADS; thread++) {
      String at = run + " round " + round + " thread " + thread;
      boolean runs = x.thread(thread, 0) == 1;
      int open = used[thread] - undone[thread];
      BENCH.due(at + " use bodies without a last", open >= 0 && open <= x.thread(thread, 4) ? 1 : 0, 1);
      BENCH.due(at + " ends", ended[thread], begun[thread] - (runs ? 1 : 0));
    }
  }
}
