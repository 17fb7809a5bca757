/** Promise 14, thread: each of its numbers at its edges, and where there are none. */
public final class Promise14Test {
  private static final Bench BENCH = new Bench("Promise 14");

  public static void main(String[] args) {
    noSuchThread();
    noSuchWhat();
    states();
    strengths();
    steps();
    howManyInItsRow();
    bodies();
    withins();
    valueToThrowOn();
    noughtWhereItDoesNotRun();
    askingChangesNothing();
    BENCH.close();
  }

  private static void noSuchThread() {
    BENCH.sentence("NONE, of a THREAD that is none");
    Lasting x = Bench.running("", "", "", "", "", "");
    for (int what = -1; what <= 7; what++) {
      BENCH.due("thread(6, " + what + ")", x.thread(6, what), -1);
      BENCH.due("thread(7, " + what + ")", x.thread(7, what), -1);
      for (int far : Bench.FAR) {
        BENCH.due("thread(" + far + ", " + what + ")", x.thread(far, what), -1);
      }
    }
  }

  private static void noSuchWhat() {
    BENCH.sentence("NONE, of a what that is none");
    Lasting x = Bench.running("q=1;", "", "throw 1;");
    Bench.turns(x, 1, 2);
    for (int t = 0; t < 4; t++) {
      BENCH.due("thread(" + t + ", 7)", x.thread(t, 7), -1);
      for (int far : Bench.FAR) {
        BENCH.due("thread(" + t + ", " + far + ")", x.thread(t, far), -1);
      }
    }
  }

  private static void states() {
    BENCH.sentence("what = 0 0 never begun, 1 it RUNS, 2 it is DONE, 3 it has DIED");
    Lasting x = Bench.running("q=1;", "throw 1;");
    for (int t = 2; t < 6; t++) {
      BENCH.due("never begun", x.thread(t, 0), 0);
    }
    BENCH.due("begun", x.thread(0, 0), 1);
    x.turn(0);
    BENCH.due("behind its last statement it RUNS yet", x.thread(0, 0), 1);
    x.turn(0);
    BENCH.due("DONE", x.thread(0, 0), 2);
    x.turn(1);
    BENCH.due("DIED", x.thread(1, 0), 3);
    x.start(0, 0);
    BENCH.due("begun again", x.thread(0, 0), 1);
    x.clear();
    BENCH.due("cleared", x.thread(0, 0) + x.thread(1, 0), 0);
  }

  private static void strengths() {
    BENCH.sentence("1 its STRENGTH");
    Lasting x = Bench.running("mask{q=1;}hard{q=2;}open{q=3;}");
    String got = "" + x.thread(0, 1);
    for (int i = 0; i < 6; i++) {
      x.turn(0);
      got += x.thread(0, 1);
    }
    BENCH.dueRow("at first, and behind each TURN (at a body's end it is yet the body's)", got, "0112200");
  }

  private static void steps() {
    BENCH.sentence("2 STEPS (TURNS that were 0 to 3)");
    Lasting x = Bench.running("try{throw 1;}catch q{take a to q;}", "throw 2;");
    BENCH.dueRow("turns", Bench.times(x, 0, 5), "01444");
    BENCH.due("those that WAIT are none", x.thread(0, 2), 2);
    x.fill(0, 1);
    x.turn(0);
    BENCH.due("0, 1 and 0", x.thread(0, 2), 3);
    x.turn(0);
    BENCH.due("2", x.thread(0, 2), 4);
    x.turn(0);
    BENCH.due("NONE is none", x.thread(0, 2), 4);
    x.turn(1);
    BENCH.due("3", x.thread(1, 2), 1);
    BENCH.due("never begun", x.thread(2, 2), 0);
    x.start(0, 0);
    BENCH.due("begun again", x.thread(0, 2), 0);
  }

  private static void howManyInItsRow() {
    BENCH.sentence("3 how many stand in its ROW");
    Lasting x = Bench.running("hard{within 1{while(1){}}}", "send 1 to 0;");
    BENCH.due("none", x.thread(0, 3), 0);
    x.turn(0);
    x.hurl(0, 5);
    BENCH.due("from outside", x.thread(0, 3), 1);
    x.turn(1);
    BENCH.due("from a THREAD", x.thread(0, 3), 2);
    Bench.times(x, 0, 2);
    BENCH.due("a TIMEOUT", x.thread(0, 3), 3);
  }

  private static void bodies() {
    BENCH.sentence("4 in how many bodies it is (those at their ends, too)");
    Lasting x = Bench.running("mask{".repeat(8) + "q=1;" + "}".repeat(8) + "q=2;");
    for (int n = 0; n <= 8; n++) {
      BENCH.due("in " + n, x.thread(0, 4), n);
      x.turn(0);
    }
    BENCH.due("at the ends of all", x.thread(0, 4), 8);
    x.turn(0);
    BENCH.due("out of all", x.thread(0, 4), 0);
    x = Bench.running("first{q=1;}use{q=2;}last{q=3;}");
    for (int i = 0; i < 4; i++) {
      x.turn(0);
      BENCH.due("first, use and last, one at a time", x.thread(0, 4), 1);
    }
  }

  private static void withins() {
    BENCH.sentence("5 within bodies whose TIMEOUT has not come");
    Lasting x = Bench.running("hard{within 3{within 9{within 5{q=1;while(1){}}}}}");
    String got = "";
    for (int i = 0; i < 14; i++) {
      x.turn(0);
      got += x.thread(0, 5);
    }
    // They went in at 2, 3 and 4, so their TIMEOUTS come at 5, 12 and 9.
    BENCH.dueRow("behind each TURN", got, "01232222111000");
    x = Bench.running("within 9{q=1;}q=2;");
    Bench.times(x, 0, 2);
    BENCH.due("at its end", x.thread(0, 5), 1);
    x.turn(0);
    BENCH.due("left", x.thread(0, 5), 0);
    x = Bench.running("within 2{q=1;q=2;}else{take a to q;}");
    Bench.times(x, 0, 4);
    BENCH.due("an else is none", x.thread(0, 5), 0);
  }

  private static void valueToThrowOn() {
    BENCH.sentence("6 whether it has a value to throw on behind a last");
    Lasting x = Bench.running("try{first{}use{throw 0;}last{q=1;}}catch q{q=2;}");
    String got = "";
    for (int i = 0; i < 6; i++) {
      x.turn(0);
      got += x.thread(0, 6);
    }
    BENCH.dueRow("a value of 0 too; in last, at its end, and not in catch", got, "001100");
    x = Bench.running("first{}use{}last{q=1;q=2;}");
    Bench.times(x, 0, 2);
    BENCH.due("a last with nothing thrown", x.thread(0, 6), 0);
    x = Bench.running("first{}use{throw 1;}last{mask{first{}use{q=1;}last{q=2;}}}");
    Bench.times(x, 0, 5);
    BENCH.due("of an outer last", x.thread(0, 6), 1);
    x = Bench.running("within 2{first{}use{take a to q;}last{q=1;}}");
    Bench.times(x, 0, 3);
    BENCH.due("a TIMEOUT", x.thread(0, 6), 1);
    x = Bench.running("try{first{}use{throw 1;}last{throw 2;}}catch q{q=1;}");
    Bench.times(x, 0, 4);
    BENCH.due("one that another went instead of", x.thread(0, 6), 0);
  }

  private static void noughtWhereItDoesNotRun() {
    BENCH.sentence("(1, 4 to 6: 0 if it does not RUN.)");
    Lasting x = Bench.running("hard{within 99{first{}use{throw 1;}last{throw 2;}}}", "mask{within 99{q=1;}}");
    BENCH.dueRow("ahead", Bench.times(x, 0, 4) + Bench.told(x, 0), "00011 2 4 0 3 1 1");
    BENCH.dueRow("DIED", Bench.turns(x, 0) + Bench.told(x, 0), "33 0 5 0 0 0 0");
    BENCH.dueRow("DONE", Bench.times(x, 1, 4) + Bench.told(x, 1), "00022 0 4 0 0 0 0");
    BENCH.dueRow("never begun", Bench.told(x, 2), "0 0 0 0 0 0 0");
  }

  private static void askingChangesNothing() {
    BENCH.sentence("no question changes anything");
    String[] texts = {"mask{q=1;within 2{first{}use{take a to q;}last{note 1;}}}", "send 5 to 0;", "mask{r=1;}take b to q;"};
    Lasting x = Bench.running(texts);
    Lasting y = Bench.running(texts);
    for (int i = 0; i < 60; i++) {
      Bench.all(x);
      BENCH.due("turn", x.turn(i * 7 % 3), y.turn(i * 7 % 3));
    }
    BENCH.dueRow("all", Bench.all(x), Bench.all(y));
  }
}
