/** Promise 11, fill: BOXES that are none, and full ones. */
public final class Promise11Test {
  private static final Bench BENCH = new Bench("Promise 11");

  public static void main(String[] args) {
    becomesFull();
    noSuchBox();
    fullAlready();
    fullByAPut();
    againWhenTaken();
    BENCH.close();
  }

  private static void becomesFull() {
    BENCH.sentence("A BOX (0 .. 7) becomes full with v: 1");
    long[] all = {0, 1, -1, Long.MIN_VALUE, Long.MAX_VALUE, 1L << 32, 7, -7};
    Lasting x = new Lasting();
    for (int box = 0; box < 8; box++) {
      BENCH.due("fill(" + box + ")", x.fill(box, all[box]), 1);
      for (int other = 0; other < 8; other++) {
        BENCH.due("full(" + other + ")", x.full(other), other <= box ? 1 : 0);
        BENCH.due("box(" + other + ")", x.box(other), other <= box ? all[other] : 0);
      }
    }
  }

  private static void noSuchBox() {
    BENCH.sentence("NONE: none such");
    Lasting x = new Lasting();
    BENCH.due("fill(8, 1)", x.fill(8, 1), -1);
    for (int far : Bench.FAR) {
      BENCH.due("fill(" + far + ", 1)", x.fill(far, 1), -1);
    }
    for (int box = 0; box < 8; box++) {
      BENCH.due("full(" + box + ")", x.full(box), 0);
    }
  }

  private static void fullAlready() {
    BENCH.sentence("NONE: it is full");
    Lasting x = new Lasting();
    for (int box = 0; box < 8; box++) {
      x.fill(box, box == 3 ? 0 : 5);
      BENCH.due("fill again", x.fill(box, 6), -1);
      BENCH.due("fill with the same", x.fill(box, 5), -1);
      BENCH.due("box as it was", x.box(box), box == 3 ? 0 : 5);
    }
  }

  private static void fullByAPut() {
    BENCH.sentence("full by a put is full");
    Lasting x = Bench.running("put 5 in e;");
    x.turn(0);
    BENCH.due("fill", x.fill(4, 6), -1);
    BENCH.due("box", x.box(4), 5);
  }

  private static void againWhenTaken() {
    BENCH.sentence("empty by a take, it becomes full again");
    Lasting x = Bench.running("take e to q;");
    x.fill(4, 6);
    x.turn(0);
    BENCH.due("fill", x.fill(4, 7), 1);
    BENCH.due("box", x.box(4), 7);
    BENCH.due("fill is no TURN", x.clock(), 1);
  }
}
