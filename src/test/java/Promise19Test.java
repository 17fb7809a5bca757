/** Promise 19, stuck: whether any TURN would do a STEP, were the CLOCK to stand still. */
public final class Promise19Test {
  private static final Bench BENCH = new Bench("Promise 19");

  public static void main(String[] args) {
    noneRuns();
    oneIsEnough();
    everyStatement();
    waitsByStrength();
    behindTheLast();
    whereEndedBodiesLead();
    thrownOn();
    theClockStands();
    sends();
    changesNothing();
    BENCH.close();
  }

  private static void stuck(String words, Lasting x, int due) {
    BENCH.due("stuck(), " + words, x.stuck(), due);
  }

  private static void noneRuns() {
    BENCH.sentence("no TURN of any THREAD: none RUNS");
    stuck("none begun", new Lasting(), 1);
    Lasting x = Bench.running("", "throw 1;");
    stuck("two begun", x, 0);
    x.turn(0);
    stuck("one DONE", x, 0);
    x.turn(1);
    stuck("one DONE, one DIED", x, 1);
    x.start(0, 0);
    stuck("one begun again", x, 0);
    x.clear();
    stuck("cleared", x, 1);
  }

  private static void oneIsEnough() {
    BENCH.sentence("any THREAD, 0 .. 5");
    for (int t = 0; t < 6; t++) {
      Lasting x = new Lasting();
      Bench.program(x, "take a to q;");
      Bench.program(x, "q=1;take a to q;");
      for (int each = 0; each < 6; each++) {
        x.start(each, each == t ? 1 : 0);
      }
      stuck("thread " + t + " alone would", x, 0);
      x.turn(t);
      stuck("none would", x, 1);
      x.hurl(t, 1);
      stuck("thread " + t + " is thrown to", x, 0);
    }
  }

  private static void everyStatement() {
    BENCH.sentence("would do a STEP: every statement but one that WAITS");
    for (String text : new String[] {
      "q=1;", "note 1;", "if(0){}", "while(0){}", "put 1 in a;", "throw 1;", "send 1 to 0;", "send 1 to 5;", "mask{}", "hard{}", "open{}",
      "try{}catch q{}", "first{}use{}last{}", "within 0{}", "",
    }) {
      stuck(text, Bench.running(text), 0);
    }
    Lasting x = Bench.running("put 1 in a;");
    x.fill(0, 0);
    stuck("put in a full one", x, 1);
    x = Bench.running("take a to q;");
    stuck("take of an empty one", x, 1);
    x.fill(1, 1);
    stuck("another one full", x, 1);
    x.fill(0, 0);
    stuck("its own full", x, 0);
  }

  private static void waitsByStrength() {
    BENCH.sentence("one that WAITS and is thrown to: a STEP where the STRENGTH is 0 or 1");
    String[] outers = {"open", "mask", "hard"};
    for (int outer = 0; outer < 3; outer++) {
      for (String statement : new String[] {"take a to q;", "put 1 in b;"}) {
        Lasting x = Bench.running(outers[outer] + "{" + statement + "}");
        x.fill(1, 1);
        x.turn(0);
        stuck(statement + " in " + outers[outer], x, 1);
        x.hurl(0, 5);
        stuck(statement + " in " + outers[outer] + ", thrown to", x, outer == 2 ? 1 : 0);
      }
    }
  }

  private static void behindTheLast() {
    BENCH.sentence("to be DONE is a STEP");
    Lasting x = Bench.running("mask{hard{q=1;}}");
    Bench.times(x, 0, 3);
    stuck("at the ends of all bodies", x, 0);
    x.turn(0);
    stuck("DONE", x, 1);
  }

  private static void whereEndedBodiesLead() {
    BENCH.sentence("a TURN goes out of ended bodies first");
    Lasting x = Bench.running("hard{open{q=1;}take a to q;}");
    Bench.times(x, 0, 3);
    x.hurl(0, 5);
    stuck("open at its end, hard behind it", x, 1);
    x = Bench.running("hard{q=1;}take a to q;");
    Bench.times(x, 0, 2);
    stuck("hard at its end", x, 1);
    x.hurl(0, 5);
    stuck("hard at its end, open behind it, thrown to", x, 0);
    x = Bench.running("hard{first{}use{}last{take a to q;}}");
    Bench.times(x, 0, 2);
    stuck("through first and use to a last that WAITS", x, 1);
    x.fill(0, 1);
    stuck("that need not WAIT", x, 0);
    x = Bench.running("first{}use{put 1 in a;}last{q=1;}note 1;");
    Bench.times(x, 0, 3);
    stuck("out of last, not to use again", x, 0);
    x = Bench.running("first{}use{put 1 in a;}last{put 1 in a;}note 1;");
    Bench.times(x, 0, 2);
    stuck("from use to last", x, 1);
    x = Bench.running("hard{first{put 1 in a;}use{q=1;}last{}}");
    Bench.times(x, 0, 3);
    stuck("from first to use", x, 0);
    x = Bench.running("while(1){q=1;}");
    Bench.times(x, 0, 2);
    stuck("to a while's exp", x, 0);
    x = Bench.running("mask{within 1{q=1;q=2;}take a to q;}");
    Bench.times(x, 0, 4);
    BENCH.dueRow("a TIMEOUT stands", Bench.row(x, 0), "7:2:0");
    stuck("it goes with its body, ahead of the wait", x, 1);
    x.hurl(0, 5);
    stuck("another does not", x, 0);
  }

  private static void thrownOn() {
    BENCH.sentence("a value that is THROWN on is a STEP");
    Lasting x = Bench.running("hard{first{}use{throw 1;}last{take a to q;}}");
    Bench.times(x, 0, 3);
    stuck("in last it WAITS", x, 1);
    x = Bench.running("hard{first{}use{throw 1;}last{}take a to q;}");
    Bench.times(x, 0, 3);
    stuck("at last's end", x, 0);
  }

  private static void theClockStands() {
    BENCH.sentence("were the CLOCK to stand still: no TIMEOUT comes");
    Lasting x = Bench.running("within 1{take a to q;}");
    stuck("to go in", x, 0);
    x.turn(0);
    stuck("its TIMEOUT would come with the CLOCK", x, 1);
    BENCH.due("a TURN with the CLOCK", x.turn(0), 1);
    x = Bench.running("mask{within 1{take a to q;}}", "take a to q;");
    Bench.times(x, 0, 2);
    stuck("not come", x, 1);
    x.turn(1);
    stuck("come", x, 0);
    x = Bench.running("hard{within 1{take a to q;}}", "take a to q;");
    Bench.turns(x, 0, 0, 1);
    stuck("come, but hard", x, 1);
  }

  private static void sends() {
    BENCH.sentence("a send WAITS from its first TURN on");
    Lasting x = Bench.running("send 1 to 1;", "hard{take a to q;}");
    x.turn(1);
    stuck("ahead of its first TURN", x, 1);
    x.turn(0);
    stuck("sent", x, 1);
    x.hurl(0, 5);
    stuck("broken", x, 0);
    x = Bench.running("send 1 to 1;", "mask{take a to q;}");
    x.turn(1);
    stuck("ahead of its first TURN", x, 1);
    x.turn(0);
    stuck("it breaks that one's wait", x, 0);
    x = Bench.running("send 1 to 1;", "try{take a to q;}catch r{take a to q;}");
    Bench.turns(x, 1, 0, 1);
    stuck("thrown there: it goes on", x, 0);
    x.turn(0);
    stuck("behind its last statement", x, 0);
    x.turn(0);
    stuck("DONE", x, 1);
    x = Bench.running("hard{send 1 to 1;}", "hard{send 2 to 0;}");
    Bench.turns(x, 0, 1, 0, 1);
    stuck("two that send to each other, hard", x, 1);
    x = Bench.running("send 1 to 1;", "hard{throw 2;}");
    Bench.turns(x, 1, 0, 1);
    stuck("that one DIED", x, 0);
  }

  private static void changesNothing() {
    BENCH.sentence("would do, not does");
    Lasting x = Bench.running("mask{first{}use{}last{note 1;}}", "send 1 to 0;", "try{q=1;}catch q{}");
    Bench.turns(x, 0, 0, 1, 2);
    x.hurl(2, 5);
    String before = Bench.told(x, 0) + Bench.told(x, 1) + Bench.told(x, 2) + Bench.row(x, 0) + Bench.row(x, 2) + Bench.notes(x) + x.clock();
    for (int i = 0; i < 10; i++) {
      stuck("again", x, 0);
    }
    String after = Bench.told(x, 0) + Bench.told(x, 1) + Bench.told(x, 2) + Bench.row(x, 0) + Bench.row(x, 2) + Bench.notes(x) + x.clock();
    BENCH.dueRow("all", after, before);
    x = Bench.running("hard{within 0{take a to q;}}");
    Bench.times(x, 0, 2);
    x.stuck();
    BENCH.dueRow("no TIMEOUT has come by it", Bench.told(x, 0), "1 2 2 0 2 1 0");
  }
}
