/** Promise 10, hurl: 8 from outside, and whoever does not RUN. */
public final class Promise10Test {
  private static final Bench BENCH = new Bench("Promise 10");

  public static void main(String[] args) {
    howMany();
    doesNotRun();
    eightFromOutside();
    othersDoNotCount();
    againWhenOneIsTaken();
    eachThreadItsOwn();
    anyValue();
    toTheEnd();
    noTurnOfItsOwn();
    BENCH.close();
  }

  private static void howMany() {
    BENCH.sentence("From outside a value comes to the end of a THREAD's ROW: how many it has");
    Lasting x = Bench.running("hard{}");
    for (int n = 1; n <= 8; n++) {
      BENCH.due("hurl", x.hurl(0, 100 + n), n);
      BENCH.due("thread(0, 3)", x.thread(0, 3), n);
      BENCH.due("value", x.value(0, n - 1), 100 + n);
      BENCH.due("from outside", x.row(0, n - 1, 0), 6);
    }
  }

  private static void doesNotRun() {
    BENCH.sentence("NONE: it does not RUN");
    Lasting x = Bench.running("", "throw 1;");
    Bench.turns(x, 0, 1);
    BENCH.due("DONE", x.hurl(0, 1), -1);
    BENCH.due("DIED", x.hurl(1, 1), -1);
    BENCH.due("never begun", x.hurl(2, 1), -1);
    BENCH.due("hurl(6, 1)", x.hurl(6, 1), -1);
    BENCH.due("hurl(7, 1)", x.hurl(7, 1), -1);
    for (int far : Bench.FAR) {
      BENCH.due("hurl(" + far + ", 1)", x.hurl(far, 1), -1);
    }
    for (int t = 0; t < 6; t++) {
      BENCH.due("no row", x.thread(t, 3), 0);
    }
    x.start(0, 0);
    BENCH.due("begun, nothing of that is there", x.thread(0, 3), 0);
    BENCH.due("and it may come", x.hurl(0, 1), 1);
  }

  private static void eightFromOutside() {
    BENCH.sentence("NONE: it has 8 from outside");
    Lasting x = Bench.running("hard{while(1){}}");
    x.turn(0);
    for (int n = 1; n <= 8; n++) {
      x.hurl(0, n);
    }
    String before = Bench.all(x);
    BENCH.due("the ninth", x.hurl(0, 9), -1);
    BENCH.due("again", x.hurl(0, 9), -1);
    BENCH.dueRow("nothing came", Bench.all(x), before);
    x.turn(0);
    BENCH.due("nor a TURN later", x.hurl(0, 9), -1);
  }

  private static void othersDoNotCount() {
    BENCH.sentence("8 from outside: those of THREADS and TIMEOUTS are not of them");
    Lasting x = Bench.running("hard{within 1{within 1{while(1){}}}}", "send 5 to 0;", "send 6 to 0;");
    Bench.turns(x, 0, 1, 2, 0, 0, 0);
    BENCH.due("four stand there", x.thread(0, 3), 4);
    for (int n = 1; n <= 8; n++) {
      BENCH.due("hurl", x.hurl(0, n), 4 + n);
    }
    BENCH.due("the ninth", x.hurl(0, 9), -1);
  }

  private static void againWhenOneIsTaken() {
    BENCH.sentence("it has 7 again when one was THROWN");
    Lasting x = Bench.running("try{take a to q;}catch q{hard{take a to q;}}");
    x.turn(0);
    for (int n = 1; n <= 8; n++) {
      x.hurl(0, n);
    }
    BENCH.due("full", x.hurl(0, 9), -1);
    BENCH.due("thrown", x.turn(0), 1);
    BENCH.due("one more", x.hurl(0, 9), 8);
    BENCH.due("full again", x.hurl(0, 10), -1);
    BENCH.dueRow("row", Bench.row(x, 0), "6:0:2 6:0:3 6:0:4 6:0:5 6:0:6 6:0:7 6:0:8 6:0:9");
  }

  private static void eachThreadItsOwn() {
    BENCH.sentence("each THREAD's ROW is its own");
    Lasting x = Bench.running("hard{}", "hard{}", "hard{}", "hard{}", "hard{}", "hard{}");
    for (int t = 0; t < 6; t++) {
      for (int n = 1; n <= 8; n++) {
        BENCH.due("hurl", x.hurl(t, 10 * t + n), n);
      }
      BENCH.due("the ninth", x.hurl(t, 9), -1);
    }
    for (int t = 0; t < 6; t++) {
      BENCH.due("value", x.value(t, 7), 10 * t + 8);
    }
  }

  private static void anyValue() {
    BENCH.sentence("a value of 64 bits");
    Lasting x = Bench.running("hard{}");
    long[] all = {0, -1, Long.MIN_VALUE, Long.MAX_VALUE, 1L << 32};
    for (long v : all) {
      x.hurl(0, v);
    }
    for (int i = 0; i < all.length; i++) {
      BENCH.due("value", x.value(0, i), all[i]);
    }
  }

  private static void toTheEnd() {
    BENCH.sentence("to the end of the ROW, behind those of THREADS and TIMEOUTS");
    Lasting x = Bench.running("hard{within 2{while(1){}}}", "send 5 to 0;");
    Bench.turns(x, 0, 1);
    x.hurl(0, 1);
    Bench.turns(x, 0, 0, 0);
    x.hurl(0, 2);
    BENCH.dueRow("row", Bench.row(x, 0), "1:0:5 6:0:1 7:2:0 6:0:2");
  }

  private static void noTurnOfItsOwn() {
    BENCH.sentence("it stands there till a TURN: hurl is none");
    Lasting x = Bench.running("try{q=1;}catch q{}");
    x.turn(0);
    x.hurl(0, 5);
    BENCH.dueRow("told", Bench.told(x, 0) + " " + x.clock() + " " + x.notes(), "1 0 1 1 1 0 0 1 0");
  }
}
