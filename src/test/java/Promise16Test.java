/** Promise 16, local: q .. z of each THREAD, else 0. */
public final class Promise16Test {
  private static final Bench BENCH = new Bench("Promise 16");
  private static final String ALL = "q=11;r=12;s=13;t=14;u=15;v=16;w=17;x=18;y=19;z=20;";

  public static void main(String[] args) {
    everyLetter();
    noSuchLetter();
    noSuchThread();
    eachItsOwn();
    staysWhenItEnded();
    anyNumber();
    BENCH.close();
  }

  private static void everyLetter() {
    BENCH.sentence("A LOCAL (0 .. 9: q .. z) of a THREAD");
    Lasting x = Bench.running(ALL);
    for (int n = 0; n <= 10; n++) {
      for (int letter = 0; letter < 10; letter++) {
        BENCH.due("local(0, " + letter + ")", x.local(0, letter), letter < n ? 11 + letter : 0);
      }
      x.turn(0);
    }
  }

  private static void noSuchLetter() {
    BENCH.sentence("0: no such letter");
    Lasting x = Bench.running(ALL);
    Bench.times(x, 0, 10);
    BENCH.due("local(0, 10)", x.local(0, 10), 0);
    for (int far : Bench.FAR) {
      BENCH.due("local(0, " + far + ")", x.local(0, far), 0);
    }
  }

  private static void noSuchThread() {
    BENCH.sentence("0: no such THREAD");
    Lasting x = Bench.running("q=1;", "q=1;", "q=1;", "q=1;", "q=1;", "q=1;");
    Bench.turns(x, 0, 1, 2, 3, 4, 5);
    BENCH.due("local(6, 0)", x.local(6, 0), 0);
    for (int far : Bench.FAR) {
      BENCH.due("local(" + far + ", 0)", x.local(far, 0), 0);
    }
    BENCH.due("never begun", new Lasting().local(0, 0), 0);
  }

  private static void eachItsOwn() {
    BENCH.sentence("each THREAD has its own");
    Lasting x = new Lasting();
    Bench.program(x, "take a to q;z=q;");
    for (int t = 0; t < 6; t++) {
      x.start(t, 0);
      x.fill(0, 30 + t);
      Bench.times(x, t, 2);
    }
    for (int t = 0; t < 6; t++) {
      BENCH.dueRow("locals of " + t, Bench.locals(x, t), (30 + t) + " 0 0 0 0 0 0 0 0 " + (30 + t));
    }
  }

  private static void staysWhenItEnded() {
    BENCH.sentence("also of one that is DONE or has DIED, till it begins again");
    Lasting x = Bench.running("q=5;", "r=6;throw 1;");
    Bench.turns(x, 0, 0, 1, 1);
    BENCH.dueRow("ended", x.local(0, 0) + " " + x.local(1, 1), "5 6");
    x.start(0, 0);
    x.start(1, 1);
    BENCH.dueRow("begun again", x.local(0, 0) + " " + x.local(1, 1), "0 0");
    Bench.turns(x, 0, 1);
    x.clear();
    BENCH.dueRow("cleared", x.local(0, 0) + " " + x.local(1, 1), "0 0");
  }

  private static void anyNumber() {
    BENCH.sentence("64 bits");
    for (long v : new long[] {Long.MIN_VALUE, Long.MAX_VALUE, -1, 1L << 32}) {
      Lasting x = Bench.running("take a to w;");
      x.fill(0, v);
      x.turn(0);
      BENCH.due("w", x.local(0, 6), v);
    }
  }
}
