/** Promise 17, row: who threw, how deep a TIMEOUT's within lies, and where there is none. */
public final class Promise17Test {
  private static final Bench BENCH = new Bench("Promise 17");

  public static void main(String[] args) {
    whoThrew();
    howDeep();
    noughtElse();
    noSuchPlace();
    noSuchWhat();
    noSuchThread();
    movesUp();
    BENCH.close();
  }

  private static void whoThrew() {
    BENCH.sentence("what = 0 who threw (6 from outside, 7 a TIMEOUT)");
    for (int to = 0; to < 6; to++) {
      Lasting x = new Lasting();
      Bench.program(x, "hard{within 2{while(1){}}}");
      Bench.program(x, "send 9 to " + to + ";");
      x.start(to, 0);
      x.turn(to);
      StringBuilder due = new StringBuilder();
      for (int from = 0; from < 6; from++) {
        if (from != to) {
          x.start(from, 1);
          x.turn(from);
          due.append(from);
        }
      }
      x.hurl(to, 1);
      Bench.times(x, to, 3);
      StringBuilder got = new StringBuilder();
      for (int i = 0; i < x.thread(to, 3); i++) {
        got.append(x.row(to, i, 0));
      }
      BENCH.dueRow("row of " + to, got.toString(), due + "67");
    }
  }

  private static void howDeep() {
    BENCH.sentence("1 in how many bodies the within of a TIMEOUT lies, its own one with them");
    for (int n = 0; n <= 7; n++) {
      Lasting x = Bench.running("hard{".repeat(n) + "within 1{q=1;q=2;}" + "}".repeat(n), "while(1){}");
      Bench.times(x, 0, n + 1);
      x.turn(1);
      BENCH.dueRow("within in " + n, Bench.row(x, 0), "7:" + (n + 1) + ":0");
    }
    Lasting x = Bench.running("mask{within 4{if(1){hard{q=1;q=2;q=3;q=4;}}}}");
    BENCH.dueRow("bodies in it do not count", Bench.times(x, 0, 7) + " " + x.thread(0, 4) + " " + Bench.row(x, 0), "0000000 4 7:2:0");
  }

  private static void noughtElse() {
    BENCH.sentence("(0 else)");
    Lasting x = Bench.running("mask{mask{while(1){}}}", "mask{send 9 to 0;}");
    Bench.turns(x, 0, 0, 1, 1);
    x.hurl(0, 5);
    BENCH.dueRow("from a THREAD, from outside", x.row(0, 0, 1) + " " + x.row(0, 1, 1), "0 0");
  }

  private static void noSuchPlace() {
    BENCH.sentence("NONE: no i-th");
    Lasting x = Bench.running("hard{}", "hard{}");
    for (int what = 0; what <= 1; what++) {
      BENCH.due("an empty ROW", x.row(0, 0, what), -1);
    }
    for (int n = 1; n <= 8; n++) {
      x.hurl(0, n);
      BENCH.due("the last", x.row(0, n - 1, 0), 6);
      for (int what = 0; what <= 1; what++) {
        BENCH.due("row(0, " + n + ", " + what + ")", x.row(0, n, what), -1);
        BENCH.due("of another", x.row(1, 0, what), -1);
      }
    }
    for (int far : Bench.FAR) {
      BENCH.due("row(0, " + far + ", 0)", x.row(0, far, 0), -1);
    }
  }

  private static void noSuchWhat() {
    BENCH.sentence("NONE: no such what");
    Lasting x = Bench.running("hard{}");
    x.hurl(0, 1);
    BENCH.due("row(0, 0, 2)", x.row(0, 0, 2), -1);
    for (int far : Bench.FAR) {
      BENCH.due("row(0, 0, " + far + ")", x.row(0, 0, far), -1);
    }
  }

  private static void noSuchThread() {
    BENCH.sentence("NONE: no such THREAD");
    Lasting x = Bench.running("", "", "", "", "", "");
    for (int t = 0; t < 6; t++) {
      x.hurl(t, 1);
    }
    BENCH.due("row(6, 0, 0)", x.row(6, 0, 0), -1);
    for (int far : Bench.FAR) {
      BENCH.due("row(" + far + ", 0, 0)", x.row(far, 0, 0), -1);
    }
    BENCH.due("never begun", new Lasting().row(0, 0, 0), -1);
    x.turn(0);
    BENCH.due("DIED", x.row(0, 0, 0), -1);
  }

  private static void movesUp() {
    BENCH.sentence("the i-th: those behind one that was taken move up");
    Lasting x = Bench.running("within 1{mask{try{take a to q;}catch q{take a to q;}}}", "send 4 to 0;");
    Bench.times(x, 0, 1);
    x.hurl(0, 1);
    x.hurl(0, 2);
    BENCH.dueRow("it is thrown to ahead of mask", Bench.turns(x, 0) + x.died(0), "31");
    x = Bench.running("mask{within 3{try{take a to q;}catch q{take a to q;}}}", "send 4 to 0;");
    Bench.times(x, 0, 3);
    x.hurl(0, 1);
    Bench.turns(x, 1, 1);
    BENCH.dueRow("three", Bench.row(x, 0), "6:0:1 1:0:4 7:2:0");
    BENCH.dueRow("two", Bench.turns(x, 0) + " " + Bench.row(x, 0), "1 1:0:4 7:2:0");
    BENCH.due("none behind", x.row(0, 2, 0), -1);
    BENCH.dueRow("it dies of the next", Bench.turns(x, 0) + x.died(0) + Bench.row(x, 0), "34");
  }
}
