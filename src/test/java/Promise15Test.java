/** Promise 15, died: what a THREAD has DIED of, else 0. */
public final class Promise15Test {
  private static final Bench BENCH = new Bench("Promise 15");

  public static void main(String[] args) {
    ofWhat();
    anyValue();
    noughtElse();
    noSuchThread();
    BENCH.close();
  }

  private static void ofWhat() {
    BENCH.sentence("What a THREAD has DIED of");
    Lasting x = Bench.running("throw 5;", "send 6 to 1;", "q=1;", "first{}use{throw 8;}last{throw 9;}", "first{}use{throw 10;}last{}");
    x.hurl(2, 7);
    Bench.turns(x, 0, 1, 2, 3, 3, 3, 4, 4, 4);
    BENCH.dueRow("died", x.died(0) + " " + x.died(1) + " " + x.died(2) + " " + x.died(3) + " " + x.died(4), "5 6 7 9 10");
    Lasting y = Bench.running("send 6 to 5;");
    Bench.program(y, "take a to q;");
    y.start(5, 1);
    Bench.turns(y, 0, 5);
    BENCH.dueRow("of what another sent", y.died(5) + " " + y.died(0), "6 0");
  }

  private static void anyValue() {
    BENCH.sentence("a value of 64 bits, 0 too");
    for (long v : new long[] {0, -1, Long.MIN_VALUE, Long.MAX_VALUE, 1L << 32}) {
      for (int t = 0; t < 6; t++) {
        Lasting x = new Lasting();
        x.text();
        x.start(t, 0);
        x.hurl(t, v);
        BENCH.due("turn", x.turn(t), 3);
        for (int other = 0; other < 6; other++) {
          BENCH.due("died(" + other + ")", x.died(other), other == t ? v : 0);
        }
      }
    }
  }

  private static void noughtElse() {
    BENCH.sentence("0: never begun, it RUNS, it is DONE");
    Lasting x = Bench.running("try{throw 5;}catch q{}");
    BENCH.due("never begun", x.died(1), 0);
    Bench.times(x, 0, 2);
    BENCH.due("thrown in it, but it RUNS", x.died(0), 0);
    x.turn(0);
    BENCH.due("DONE", x.died(0), 0);
    BENCH.sentence("0: it has begun again since");
    Lasting y = Bench.running("throw 5;");
    y.turn(0);
    BENCH.due("DIED", y.died(0), 5);
    y.turn(0);
    BENCH.due("and stays so", y.died(0), 5);
    y.start(0, 0);
    BENCH.due("begun again", y.died(0), 0);
    y.turn(0);
    y.clear();
    BENCH.due("cleared", y.died(0), 0);
  }

  private static void noSuchThread() {
    BENCH.sentence("0: none such");
    Lasting x = Bench.running("throw 5;", "throw 5;", "throw 5;", "throw 5;", "throw 5;", "throw 5;");
    Bench.turns(x, 0, 1, 2, 3, 4, 5);
    BENCH.due("died(6)", x.died(6), 0);
    BENCH.due("died(7)", x.died(7), 0);
    for (int far : Bench.FAR) {
      BENCH.due("died(" + far + ")", x.died(far), 0);
    }
  }
}
