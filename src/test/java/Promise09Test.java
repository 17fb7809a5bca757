import java.math.BigInteger;
import java.util.ArrayList;
import java.util.List;

/** Promise 9, play: which THREADS are drawn, what counts, and how many TURNS it may be. */
public final class Promise09Test {
  private static final Bench BENCH = new Bench("Promise 9");
  private static final BigInteger ALL = BigInteger.ONE.shiftLeft(64);
  private static final String TICKS = "while(1){}";
  private static final String[] SIX = {TICKS, TICKS, TICKS, TICKS, TICKS, TICKS};
  private static final long[] SEEDS = {0, 1, 2, -1, -2, 77, 6364136223846793005L, Long.MIN_VALUE, Long.MIN_VALUE + 1, Long.MAX_VALUE};

  public static void main(String[] args) {
    turnsOutside();
    noTurns();
    mostTurns();
    highestThreeBits();
    seedAndWrap();
    sixAndSeven();
    notRunning();
    answersNoughtToThree();
    endsOnTheWay();
    timeoutsOnTheWay();
    asTurns();
    BENCH.close();
  }

  /** The THREADS that a seed draws, reckoned without 64 bits running over. */
  private static List<Integer> drawn(long seed, int n) {
    List<Integer> all = new ArrayList<>();
    BigInteger s = BigInteger.valueOf(seed).mod(ALL);
    for (int i = 0; i < n; i++) {
      s = s.multiply(new BigInteger("6364136223846793005")).add(new BigInteger("1442695040888963407")).mod(ALL);
      all.add(s.shiftRight(61).intValue());
    }
    return all;
  }

  private static void turnsOutside() {
    BENCH.sentence("NONE: another n");
    Lasting x = Bench.running(SIX);
    String before = Bench.all(x);
    for (int n : Bench.FAR) {
      BENCH.due("play(1, " + n + ")", x.play(1, n), -1);
    }
    BENCH.due("play(1, 2001)", x.play(1, 2001), -1);
    BENCH.due("play(1, 4000)", x.play(1, 4000), -1);
    BENCH.dueRow("no TURN was taken", Bench.all(x), before);
    BENCH.due("nor where none RUNS", new Lasting().play(1, 2001), -1);
  }

  private static void noTurns() {
    BENCH.sentence("n TURNS (0 .. 2000): 0");
    Lasting x = Bench.running(SIX);
    for (long seed : SEEDS) {
      BENCH.due("play(" + seed + ", 0)", x.play(seed, 0), 0);
    }
    BENCH.due("clock", x.clock(), 0);
  }

  private static void mostTurns() {
    BENCH.sentence("n TURNS (0 .. 2000): 2000");
    for (int n : new int[] {1, 1999, 2000}) {
      Lasting x = Bench.running(SIX);
      long due = drawn(9, n).stream().filter(t -> t < 6).count();
      BENCH.due("play(9, " + n + ")", x.play(9, n), due);
      BENCH.due("clock", x.clock(), due);
    }
    BENCH.due("play of none", new Lasting().play(9, 2000), 0);
  }

  private static void highestThreeBits() {
    BENCH.sentence("the THREAD being the highest 3 bits of s");
    for (long seed = -40; seed < 40; seed++) {
      Lasting x = Bench.running(SIX);
      int due = drawn(seed * 1234567890123L, 1).get(0);
      BENCH.due("play(.., 1)", x.play(seed * 1234567890123L, 1), due < 6 ? 1 : 0);
      for (int t = 0; t < 6; t++) {
        BENCH.due("steps of " + t, x.thread(t, 2), t == due ? 1 : 0);
      }
    }
  }

  private static void seedAndWrap() {
    BENCH.sentence("s is the seed, and for each s becomes 6364136223846793005 s + 1442695040888963407");
    String noting = "note 1;".repeat(40);
    for (long seed : SEEDS) {
      Lasting x = Bench.running(noting, noting, noting, noting, noting, noting);
      List<Integer> due = drawn(seed, 100);
      due.removeIf(t -> t > 5);
      BENCH.due("play(" + seed + ", 100)", x.play(seed, 100), due.size());
      List<Integer> got = new ArrayList<>();
      for (int i = 0; i < x.notes(); i++) {
        got.add(x.note(i, 1));
      }
      BENCH.dueRow("in this order", got.toString(), due.toString());
    }
    Lasting x = Bench.running(noting, noting, noting, noting, noting, noting);
    x.play(5, 30);
    String once = Bench.notes(x);
    Lasting y = Bench.running(noting, noting, noting, noting, noting, noting);
    y.play(5, 10);
    y.play(5, 10);
    y.play(5, 10);
    BENCH.due("each play begins at its own seed", once.equals(Bench.notes(y)) ? 1 : 0, 0);
  }

  private static void sixAndSeven() {
    BENCH.sentence("(6, 7: nothing)");
    int found = 0;
    for (long seed = 0; found < 10; seed++) {
      if (drawn(seed, 1).get(0) >= 6) {
        found++;
        Lasting x = Bench.running(SIX);
        String before = Bench.all(x);
        BENCH.due("play(" + seed + ", 1)", x.play(seed, 1), 0);
        BENCH.dueRow("nothing", Bench.all(x), before);
      }
    }
  }

  private static void notRunning() {
    BENCH.sentence("(one that does not RUN: nothing)");
    Lasting x = Bench.running("", "throw 1;", TICKS);
    Bench.turns(x, 0, 1);
    long due = drawn(3, 500).stream().filter(t -> t == 2).count();
    BENCH.due("play(3, 500)", x.play(3, 500), due);
    BENCH.due("the CLOCK goes by thread 2 alone", x.clock(), 2 + due);
    BENCH.dueRow("the others", Bench.told(x, 0) + ", " + Bench.told(x, 1) + ", " + Bench.told(x, 3), "2 0 1 0 0 0 0, 3 0 1 0 0 0 0, 0 0 0 0 0 0 0");
  }

  private static void answersNoughtToThree() {
    BENCH.sentence("how many STEPS were done (answers 0 to 3)");
    Lasting x = Bench.running("take a to q;", TICKS);
    long waits = drawn(4, 300).stream().filter(t -> t == 0).count();
    long steps = drawn(4, 300).stream().filter(t -> t == 1).count();
    BENCH.due("4 does not count", x.play(4, 300), steps);
    BENCH.due("but the CLOCK goes", x.clock(), waits + steps);
    BENCH.due("all WAIT", Bench.running("take a to q;").play(4, 300), 0);
    BENCH.due("2 counts", Bench.running("", "").play(4, 300), 2);
    BENCH.due("3 counts", Bench.running("throw 1;", "throw 2;", "throw 3;").play(4, 300), 3);
    BENCH.due("0, 1 and 2 count", Bench.running("try{throw 1;}catch q{}").play(4, 300), 3);
  }

  private static void endsOnTheWay() {
    BENCH.sentence("one that ends on the way is nothing from there on");
    Lasting x = Bench.running("q=1;q=2;q=3;");
    BENCH.due("play(8, 2000)", x.play(8, 2000), 4);
    BENCH.due("clock", x.clock(), 4);
    BENCH.due("play again", x.play(8, 2000), 0);
    BENCH.dueRow("told", Bench.told(x, 0), "2 0 4 0 0 0 0");
  }

  private static void timeoutsOnTheWay() {
    BENCH.sentence("its TURNS are TURNS: TIMEOUTS come");
    Lasting x = Bench.running("within 20{take a to q;}else{note 1;}");
    BENCH.due("in, thrown, note, DONE", x.play(6, 2000), 4);
    BENCH.dueRow("notes", Bench.notes(x), "1/0/21=0 0/0/22=1 4/0/23=0");
  }

  private static void asTurns() {
    BENCH.sentence("play does what these TURNS do");
    String[] texts = {
      "while(1){within 5{send 3 to 1;}else{note 1;}}", "while(1){try{take a to q;}catch r{put r in b;}}",
      "while(1){first{take b to q;}use{put q in a;}last{note q;}}", "mask{while(1){try{put 4 in a;}catch z{send z to 2;}}}",
      "while(1){try{send 7 to 3;}catch w{}}", "while(1){hard{q=q+1;put q in c;}open{take c to r;}}",
    };
    for (long seed : SEEDS) {
      Lasting x = Bench.running(texts);
      Lasting y = Bench.running(texts);
      int steps = 0;
      for (int t : drawn(seed, 250)) {
        int answer = y.turn(t);
        steps += answer >= 0 && answer <= 3 ? 1 : 0;
      }
      BENCH.due("play(" + seed + ", 250)", x.play(seed, 250), steps);
      BENCH.dueRow("all", Bench.all(x), Bench.all(y));
    }
  }
}
