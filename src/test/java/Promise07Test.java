/** Promise 7, start: who may begin, what is refused, and what is as at first. */
public final class Promise07Test {
  private static final Bench BENCH = new Bench("Promise 7");

  public static void main(String[] args) {
    noSuchThread();
    noSuchProgram();
    itRuns();
    refusedChangesNothing();
    firstAndLastOfBoth();
    doneAndDied();
    allOfItAsAtFirst();
    othersStay();
    oneProgramForAll();
    BENCH.close();
  }

  private static void noSuchThread() {
    BENCH.sentence("NONE: none such, of THREADS");
    Lasting x = new Lasting();
    x.text();
    for (int far : Bench.FAR) {
      BENCH.due("start(" + far + ", 0)", x.start(far, 0), -1);
    }
    BENCH.due("start(6, 0)", x.start(6, 0), -1);
    BENCH.due("start(7, 0)", x.start(7, 0), -1);
    BENCH.due("start(6, 1)", x.start(6, 1), -1);
  }

  private static void noSuchProgram() {
    BENCH.sentence("NONE: none such, of PROGRAMS");
    Lasting x = new Lasting();
    BENCH.due("start(0, 0), there being none", x.start(0, 0), -1);
    Bench.program(x, "!");
    BENCH.due("start(0, 0) of a fault", x.start(0, 0), -1);
    x.text();
    for (int far : Bench.FAR) {
      BENCH.due("start(0, " + far + ")", x.start(0, far), -1);
    }
    BENCH.due("start(0, 1)", x.start(0, 1), -1);
    BENCH.due("start(0, 12)", x.start(0, 12), -1);
    BENCH.due("it is not begun", x.thread(0, 0), 0);
    BENCH.due("start(0, 0)", x.start(0, 0), 1);
  }

  private static void itRuns() {
    BENCH.sentence("NONE: it RUNS");
    Lasting x = Bench.running("q=1;take a to q;", "");
    BENCH.due("start ahead of its first TURN", x.start(0, 0), -1);
    x.turn(0);
    BENCH.due("start in its midst", x.start(0, 0), -1);
    BENCH.due("start of another program", x.start(0, 1), -1);
    x.turn(0);
    BENCH.due("start while it WAITS", x.start(0, 0), -1);
    x.fill(0, 1);
    x.turn(0);
    BENCH.due("start behind its last statement", x.start(0, 0), -1);
    x.turn(0);
    BENCH.due("start when it is DONE", x.start(0, 0), 1);
  }

  private static void refusedChangesNothing() {
    BENCH.sentence("NONE: nothing is begun");
    Lasting x = Bench.running("mask{within 3{q=7;take a to q;}}", "");
    Bench.times(x, 0, 4);
    x.hurl(0, 5);
    String before = Bench.all(x);
    x.start(0, 1);
    x.start(0, 0);
    x.start(0, 2);
    x.start(1, 5);
    x.start(6, 0);
    x.start(-1, 0);
    BENCH.dueRow("all", Bench.all(x), before);
  }

  private static void firstAndLastOfBoth() {
    BENCH.sentence("A THREAD begins a PROGRAM: 1");
    Lasting x = new Lasting();
    for (int p = 0; p < 12; p++) {
      Bench.program(x, "note " + p + ";");
    }
    BENCH.due("start(0, 11)", x.start(0, 11), 1);
    BENCH.due("start(5, 0)", x.start(5, 0), 1);
    BENCH.dueRow("thread 0", Bench.told(x, 0), "1 0 0 0 0 0 0");
    BENCH.dueRow("thread 5", Bench.told(x, 5), "1 0 0 0 0 0 0");
    Bench.turns(x, 0, 5);
    BENCH.dueRow("notes", Bench.notes(x), "0/0/1=11 0/5/2=0");
  }

  private static void doneAndDied() {
    BENCH.sentence("one that is DONE or has DIED begins again");
    Lasting x = Bench.running("", "throw 4;");
    Bench.turns(x, 0, 1);
    BENCH.due("DONE", x.start(0, 1), 1);
    BENCH.due("DIED", x.start(1, 0), 1);
    BENCH.dueRow("they change programs", Bench.turns(x, 0, 1), "32");
    BENCH.due("again", x.start(0, 1) + x.start(1, 0), 2);
  }

  private static void allOfItAsAtFirst() {
    BENCH.sentence("(its ROW is empty, all of it as at first)");
    Lasting x = Bench.running("hard{q=8;z=9;within 1{first{}use{throw 7;}last{q=6;throw 5;}}}");
    BENCH.dueRow("turns", Bench.times(x, 0, 6), "000001");
    x.hurl(0, 3);
    BENCH.dueRow("a value is held, two stand in its row", Bench.told(x, 0) + ", " + Bench.row(x, 0), "1 2 6 2 3 0 1, 7:2:0 6:0:3");
    BENCH.dueRow("it dies", Bench.times(x, 0, 2), "03");
    BENCH.dueRow("of it", x.died(0) + " " + Bench.locals(x, 0), "5 6 0 0 0 0 0 0 0 0 9");
    BENCH.due("start", x.start(0, 0), 1);
    BENCH.dueRow("told", Bench.told(x, 0), "1 0 0 0 0 0 0");
    BENCH.dueRow("locals", Bench.locals(x, 0), "0 0 0 0 0 0 0 0 0 0");
    BENCH.due("died", x.died(0), 0);
    BENCH.dueRow("row", Bench.row(x, 0), "");
    BENCH.due("hurl, 8 from outside again", x.hurl(0, 1), 1);
    Lasting y = Bench.running("send 4 to 1;note 1;", "take a to q;");
    BENCH.dueRow("its value stands there", Bench.turns(y, 0) + Bench.row(y, 1), "40:0:4");
    y.hurl(0, 6);
    BENCH.dueRow("broken", Bench.turns(y, 0) + Bench.row(y, 1), "3");
    y.start(0, 0);
    BENCH.dueRow("sends anew", Bench.turns(y, 0) + Bench.row(y, 1), "40:0:4");
  }

  private static void othersStay() {
    BENCH.sentence("all of it, not of others: NOTES, the CLOCK and BOXES stay");
    Lasting x = Bench.running("note 1;put 2 in c;", "mask{q=3;while(1){}}");
    Bench.turns(x, 0, 0, 0, 1, 1);
    x.hurl(1, 9);
    String other = Bench.told(x, 1) + Bench.row(x, 1) + Bench.locals(x, 1);
    BENCH.due("start", x.start(0, 0), 1);
    BENCH.due("clock", x.clock(), 5);
    BENCH.dueRow("notes", Bench.notes(x), "0/0/1=1 4/0/3=0");
    BENCH.due("box", x.box(2), 2);
    BENCH.dueRow("thread 1", Bench.told(x, 1) + Bench.row(x, 1) + Bench.locals(x, 1), other);
  }

  private static void oneProgramForAll() {
    BENCH.sentence("THREADS 0 .. 5 each do a PROGRAM, also the same one");
    Lasting x = new Lasting();
    Bench.program(x, "take a to q;q=q*2;note q;");
    for (int t = 0; t < 6; t++) {
      BENCH.due("start", x.start(t, 0), 1);
    }
    for (int t = 5; t >= 0; t--) {
      x.fill(0, 10 + t);
      BENCH.dueRow("turns of " + t, Bench.times(x, t, t + 1), "0002--".substring(0, t + 1));
    }
    for (int t = 0; t < 6; t++) {
      BENCH.due("q of " + t, x.local(t, 0), t == 0 ? 10 : 2 * (10 + t));
    }
  }
}
