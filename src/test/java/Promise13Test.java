/** Promise 13, box: what it has, else 0. */
public final class Promise13Test {
  private static final Bench BENCH = new Bench("Promise 13");

  public static void main(String[] args) {
    whatItHas();
    emptyOnes();
    noSuchBox();
    BENCH.close();
  }

  private static void whatItHas() {
    BENCH.sentence("What a BOX has");
    for (long v : new long[] {0, 1, -1, Long.MIN_VALUE, Long.MAX_VALUE, 1L << 32}) {
      for (int box = 0; box < 8; box++) {
        Lasting x = new Lasting();
        x.fill(box, v);
        for (int other = 0; other < 8; other++) {
          BENCH.due("box(" + other + ")", x.box(other), other == box ? v : 0);
        }
        x.fill(box, 9);
        BENCH.due("box behind a refused fill", x.box(box), v);
      }
    }
    Lasting x = Bench.running("q=65536*65536*65536*32768;put q in h;");
    Bench.times(x, 0, 2);
    BENCH.due("by a put", x.box(7), Long.MIN_VALUE);
  }

  private static void emptyOnes() {
    BENCH.sentence("0: it is empty, though it had a number");
    Lasting x = Bench.running("take a to q;");
    BENCH.due("at first", x.box(0), 0);
    x.fill(0, 5);
    x.turn(0);
    BENCH.due("behind take", x.box(0), 0);
    x.fill(0, 6);
    x.clear();
    BENCH.due("behind clear", x.box(0), 0);
  }

  private static void noSuchBox() {
    BENCH.sentence("0: none such");
    Lasting x = new Lasting();
    for (int box = 0; box < 8; box++) {
      x.fill(box, 5);
    }
    BENCH.due("box(8)", x.box(8), 0);
    for (int far : Bench.FAR) {
      BENCH.due("box(" + far + ")", x.box(far), 0);
    }
  }
}
