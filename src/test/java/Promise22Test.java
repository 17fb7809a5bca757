/** Promise 22, note: kind, THREAD and CLOCK of each, and where there is none. */
public final class Promise22Test {
  private static final Bench BENCH = new Bench("Promise 22");

  public static void main(String[] args) {
    kinds();
    threads();
    clocks();
    orderInOneTurn();
    noSuchNote();
    noSuchWhat();
    BENCH.close();
  }

  private static void kinds() {
    BENCH.sentence("what = 0 its kind, 0 .. 5");
    Lasting x = Bench.running("note 1;first{}use{q=1;}last{}", "take a to q;");
    x.hurl(1, 1);
    Bench.turns(x, 1, 0, 0, 0, 0);
    StringBuilder got = new StringBuilder();
    for (int i = 0; i < x.notes(); i++) {
      got.append(x.note(i, 0));
    }
    BENCH.dueRow("kinds", got.toString(), "150234");
  }

  private static void threads() {
    BENCH.sentence("1 the THREAD, 0 .. 5");
    Lasting x = Bench.running("", "", "", "", "", "");
    Bench.turns(x, 3, 5, 0, 1, 4, 2);
    int[] due = {3, 5, 0, 1, 4, 2};
    for (int i = 0; i < 6; i++) {
      BENCH.due("note(" + i + ", 1)", x.note(i, 1), due[i]);
    }
    Lasting y = Bench.running("send 1 to 1;", "take a to q;");
    Bench.turns(y, 0, 1);
    BENCH.dueRow("of one taken from a ROW: the THREAD in which it is THROWN", y.note(0, 0) + " " + y.note(0, 1), "1 1");
  }

  private static void clocks() {
    BENCH.sentence("2 the CLOCK then");
    Lasting x = Bench.running("note 1;take a to q;note 2;");
    Bench.times(x, 0, 5);
    x.fill(0, 1);
    Bench.times(x, 0, 3);
    BENCH.dueRow("clocks", x.note(0, 2) + " " + x.note(1, 2) + " " + x.note(2, 2), "1 7 8");
    Lasting y = Bench.running("first{}use{take a to q;}last{}");
    Bench.times(y, 0, 4);
    BENCH.due("use goes in at the first TURN that WAITS there", y.note(0, 2), 2);
  }

  private static void orderInOneTurn() {
    BENCH.sentence("in order, several of one TURN too");
    Lasting x = Bench.running("first{}use{}last{}");
    Bench.times(x, 0, 2);
    BENCH.dueRow("use, last, DONE", Bench.notes(x), "2/0/2=0 3/0/2=0 4/0/2=0");
    x = Bench.running("first{}use{q=1;}last{}");
    x.turn(0);
    x.hurl(0, 4);
    BENCH.dueRow("use, taken, last", Bench.turns(x, 0) + Bench.notes(x), "12/0/2=0 1/0/2=4 3/0/2=0");
    x = Bench.running("q=1;");
    x.hurl(0, 4);
    BENCH.dueRow("taken, DIED", Bench.turns(x, 0) + Bench.notes(x), "31/0/1=4 5/0/1=4");
    x = Bench.running("first{}use{}last{throw 3;}");
    Bench.times(x, 0, 2);
    BENCH.dueRow("use, last, DIED", Bench.notes(x), "2/0/2=0 3/0/2=0 5/0/2=3");
  }

  private static void noSuchNote() {
    BENCH.sentence("NONE: no NOTE i");
    Lasting x = Bench.running("note 1;".repeat(5));
    for (int n = 0; n <= 5; n++) {
      for (int what = 0; what <= 2; what++) {
        BENCH.due("note(" + n + ", " + what + ")", x.note(n, what), -1);
        if (n > 0) {
          BENCH.due("the last", x.note(n - 1, what), what == 2 ? n : 0);
        }
      }
      x.turn(0);
    }
    BENCH.due("note(400, 0)", x.note(400, 0), -1);
    for (int far : Bench.FAR) {
      BENCH.due("note(" + far + ", 0)", x.note(far, 0), -1);
    }
    x.clear();
    BENCH.due("behind clear()", x.note(0, 0), -1);
  }

  private static void noSuchWhat() {
    BENCH.sentence("NONE: no such what");
    Lasting x = Bench.running("note 1;");
    x.turn(0);
    BENCH.due("note(0, 3)", x.note(0, 3), -1);
    for (int far : Bench.FAR) {
      BENCH.due("note(0, " + far + ")", x.note(0, far), -1);
    }
  }
}
