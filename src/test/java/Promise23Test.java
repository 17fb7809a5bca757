/** Promise 23, noted: the value of a NOTE, else 0. */
public final class Promise23Test {
  private static final Bench BENCH = new Bench("Promise 23");

  public static void main(String[] args) {
    byKind();
    anyValue();
    noSuchNote();
    BENCH.close();
  }

  private static void byKind() {
    BENCH.sentence("Its value: note's, what was taken, 0 of a TIMEOUT, of use, of last and of DONE, what it DIED of");
    Lasting x = Bench.running("note 7;within 3{first{}use{take a to q;}last{}}", "take b to q;");
    x.hurl(1, 9);
    Bench.times(x, 0, 7);
    x.turn(1);
    BENCH.dueRow("notes", Bench.notes(x), "0/0/1=7 2/0/4=0 1/0/5=0 3/0/5=0 4/0/7=0 1/1/8=9 5/1/8=9");
    Lasting y = Bench.running("first{}use{throw 5;}last{}");
    Bench.times(y, 0, 3);
    BENCH.dueRow("of last it is 0, though a value is held", Bench.notes(y), "2/0/2=0 3/0/2=0 5/0/3=5");
  }

  private static void anyValue() {
    BENCH.sentence("64 bits");
    for (long v : new long[] {0, -1, Long.MIN_VALUE, Long.MAX_VALUE, 1L << 32}) {
      Lasting x = Bench.running("take a to q;note q;throw q;", "q=1;");
      x.fill(0, v);
      x.hurl(1, v);
      Bench.turns(x, 0, 0, 0, 1);
      for (int i = 0; i < 4; i++) {
        BENCH.due("noted(" + i + ")", x.noted(i), v);
      }
    }
  }

  private static void noSuchNote() {
    BENCH.sentence("0: none such");
    Lasting x = Bench.running("note 8;".repeat(5));
    for (int n = 0; n <= 5; n++) {
      BENCH.due("noted(" + n + ")", x.noted(n), 0);
      if (n > 0) {
        BENCH.due("the last", x.noted(n - 1), 8);
      }
      x.turn(0);
    }
    BENCH.due("noted(400)", x.noted(400), 0);
    for (int far : Bench.FAR) {
      BENCH.due("noted(" + far + ")", x.noted(far), 0);
    }
    x.clear();
    BENCH.due("behind clear()", x.noted(0), 0);
  }
}
