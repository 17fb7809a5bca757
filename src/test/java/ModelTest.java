import java.util.ArrayList;
import java.util.List;
import java.util.Random;
import java.util.function.Consumer;

/** Random programs and calls, the class beside the Model, all that can be asked compared after each call. */
public final class ModelTest {
  private static final Bench BENCH = new Bench("ModelTest");
  private static final int RUNS = Integer.getInteger("runs", 300);
  private static final int FIRST_SEED = Integer.getInteger("seed", 0);

  private final Random random;
  private final String run;
  private final Lasting x = new Lasting();
  private Model model = new Model();
  private final List<List<Script.Statement>> scripts = new ArrayList<>();
  private final List<Consumer<Model>> history = new ArrayList<>();
  private final int[] answers = new int[5];

  private ModelTest(int seed) {
    random = new Random(seed);
    run = "run " + seed;
  }

  public static void main(String[] args) {
    long[] seen = new long[6];
    for (int seed = FIRST_SEED; seed < FIRST_SEED + RUNS; seed++) {
      ModelTest test = new ModelTest(seed);
      test.go();
      for (int i = 0; i < 5; i++) {
        seen[i] += test.answers[i];
      }
    }
    System.out.println("ModelTest: answers of turns 0 to 4: " + java.util.Arrays.toString(seen));
    BENCH.close();
    System.exit(0);
  }

  private void go() {
    read();
    int threads = 2 + random.nextInt(3);
    for (int t = 0; t < threads; t++) {
      start(t);
    }
    for (int i = 0; i < 160; i++) {
      call(threads);
      compare(i);
    }
    compareNotes();
    model.close();
  }

  private void read() {
    while (scripts.size() < 5) {
      List<Script.Statement> script = Script.make(random, 8 + random.nextInt(22));
      String text = Script.text(script);
      if (text.length() > 800) {
        continue;
      }
      BENCH.due(run + " text " + text, Bench.program(x, text), scripts.size());
      scripts.add(script);
    }
  }

  private void both(Consumer<Model> change) {
    history.add(change);
    change.accept(model);
  }

  private void start(int thread) {
    if (x.thread(thread, 0) == 1) {
      return;
    }
    int p = random.nextInt(scripts.size());
    BENCH.due(run + " start", x.start(thread, p), 1);
    both(m -> m.start(thread, scripts.get(p)));
  }

  private void call(int threads) {
    int thread = random.nextInt(threads);
    int kind = random.nextInt(100);
    long v = random.nextInt(50) + 100;
    if (kind < 84) {
      int got = x.turn(thread);
      int due = model.turn(thread);
      history.add(m -> m.turn(thread));
      BENCH.due(run + " turn " + history.size(), got, due);
      if (due >= 0) {
        answers[due]++;
      } else {
        start(thread);
      }
    } else if (kind < 91) {
      int got = x.hurl(thread, v);
      BENCH.due(run + " hurl " + history.size(), got, model.hurl(thread, v));
      history.add(m -> m.hurl(thread, v));
    } else if (kind < 97) {
      int box = random.nextInt(3);
      BENCH.due(run + " fill", x.fill(box, v), model.fill(box, v));
      history.add(m -> m.fill(box, v));
    } else {
      BENCH.due(run + " stuck " + history.size(), x.stuck(), stuck());
    }
  }

  /** The promise to the letter: on models made again, each thread's turn is taken with a clock that stands. */
  private int stuck() {
    for (int t = 0; t < 6; t++) {
      if (model.strands[t].state == 1) {
        Model again = new Model();
        for (Consumer<Model> change : history) {
          change.accept(again);
        }
        int answer = again.turnByStillClock(t);
        again.close();
        if (answer <= 3) {
          return 0;
        }
      }
    }
    return 1;
  }

  private void compare(int call) {
    String at = run + " call " + call;
    BENCH.due(at + " clock", x.clock(), model.clock);
    BENCH.due(at + " notes", x.notes(), model.notes.size());
    for (int box = 0; box < 8; box++) {
      BENCH.due(at + " full", x.full(box), model.boxes[box] == null ? 0 : 1);
      BENCH.due(at + " box", x.box(box), model.boxes[box] == null ? 0 : model.boxes[box]);
    }
    for (int t = 0; t < 6; t++) {
      BENCH.dueRow(at + " thread " + t, Bench.told(x, t), told(model.strands[t]));
      BENCH.dueRow(at + " row " + t, Bench.row(x, t), row(model.strands[t]));
      BENCH.due(at + " died", x.died(t), model.strands[t].died);
      for (int i = 0; i < 10; i++) {
        BENCH.due(at + " local", x.local(t, i), model.strands[t].locals[i]);
      }
    }
  }

  private void compareNotes() {
    BENCH.dueRow(run + " notes", Bench.notes(x), String.join(" ", model.notes));
  }

  private static String told(Model.Strand s) {
    long notCome = s.limits.stream().filter(l -> !l.came).count();
    boolean runs = s.state == 1;
    return s.state + " " + s.strength + " " + s.steps + " " + s.row.size() + " " + s.depth + " "
        + (runs ? notCome : 0) + " " + (s.held > 0 ? 1 : 0);
  }

  private static String row(Model.Strand s) {
    List<String> row = new ArrayList<>();
    for (Model.Entry e : s.row) {
      row.add(e.who + ":" + (e.limit == null ? 0 : e.limit.depth) + ":" + e.value);
    }
    return String.join(" ", row);
  }
}
