/** Promise 18, value: of the i-th in a ROW, else 0. */
public final class Promise18Test {
  private static final Bench BENCH = new Bench("Promise 18");

  public static void main(String[] args) {
    itsValue();
    ofATimeout();
    noSuch();
    BENCH.close();
  }

  private static void itsValue() {
    BENCH.sentence("Its value");
    Lasting x = Bench.running("hard{while(1){}}", "take a to q;send q to 0;", "send -7 to 0;");
    x.turn(0);
    x.fill(0, Long.MIN_VALUE);
    x.hurl(0, Long.MAX_VALUE);
    Bench.turns(x, 1, 1, 2);
    x.hurl(0, -1);
    x.hurl(0, 1L << 32);
    long[] due = {Long.MAX_VALUE, Long.MIN_VALUE, -7, -1, 1L << 32};
    for (int i = 0; i < due.length; i++) {
      BENCH.due("value(0, " + i + ")", x.value(0, i), due[i]);
    }
  }

  private static void ofATimeout() {
    BENCH.sentence("0 of a TIMEOUT");
    Lasting x = Bench.running("hard{within 1{while(1){}}}");
    x.turn(0);
    x.hurl(0, 5);
    Bench.times(x, 0, 2);
    x.hurl(0, 6);
    BENCH.dueRow("values", x.value(0, 0) + " " + x.value(0, 1) + " " + x.value(0, 2), "5 0 6");
  }

  private static void noSuch() {
    BENCH.sentence("0: none such");
    Lasting x = Bench.running("q=1;", "q=1;");
    for (int v = 11; v <= 18; v++) {
      BENCH.due("ahead of it", x.value(0, v - 11), 0);
      x.hurl(0, v);
      BENCH.due("behind the last", x.value(0, v - 10), 0);
      BENCH.due("the last", x.value(0, v - 11), v);
    }
    for (int far : Bench.FAR) {
      BENCH.due("value(0, " + far + ")", x.value(0, far), 0);
      BENCH.due("value(" + far + ", 0)", x.value(far, 0), 0);
    }
    BENCH.due("value(6, 0)", x.value(6, 0), 0);
    BENCH.due("value(7, 0)", x.value(7, 0), 0);
    BENCH.due("an empty ROW", x.value(1, 0), 0);
    BENCH.due("never begun", x.value(2, 0), 0);
    x.turn(0);
    BENCH.due("DIED", x.value(0, 0), 0);
  }
}
