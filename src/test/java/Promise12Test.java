/** Promise 12, full: 1, 0 and NONE. */
public final class Promise12Test {
  private static final Bench BENCH = new Bench("Promise 12");

  public static void main(String[] args) {
    oneAndNought();
    noSuchBox();
    noughtIsFull();
    refusedLeavesIt();
    BENCH.close();
  }

  private static void oneAndNought() {
    BENCH.sentence("Whether a BOX is full: 1, 0");
    for (int box = 0; box < 8; box++) {
      char name = (char) ('a' + box);
      Lasting x = Bench.running("put 1 in " + name + ";take " + name + " to q;");
      BENCH.due("at first", x.full(box), 0);
      x.turn(0);
      BENCH.due("behind put", x.full(box), 1);
      x.turn(0);
      BENCH.due("behind take", x.full(box), 0);
      x.fill(box, 4);
      BENCH.due("behind fill", x.full(box), 1);
      x.clear();
      BENCH.due("behind clear", x.full(box), 0);
    }
  }

  private static void noSuchBox() {
    BENCH.sentence("NONE");
    Lasting x = new Lasting();
    BENCH.due("full(8)", x.full(8), -1);
    for (int far : Bench.FAR) {
      BENCH.due("full(" + far + ")", x.full(far), -1);
    }
  }

  private static void noughtIsFull() {
    BENCH.sentence("a BOX that has 0 is full");
    Lasting x = new Lasting();
    x.fill(2, 0);
    BENCH.due("full(2)", x.full(2), 1);
  }

  private static void refusedLeavesIt() {
    BENCH.sentence("a refused fill and a put that WAITS leave it full, a take that WAITS empty");
    Lasting x = Bench.running("put 2 in a;", "take b to q;");
    x.fill(0, 1);
    x.fill(0, 2);
    Bench.turns(x, 0, 1);
    BENCH.dueRow("full", x.full(0) + " " + x.full(1), "1 0");
  }
}
