/** Promise 8, first, use and last: what was begun is ended once, on every way out. */
public final class Promise08FirstTest {
  private static final Bench BENCH = new Bench("Promise 8, first");

  public static void main(String[] args) {
    strengths();
    noStepBetween();
    emptyBodies();
    firstThatThrows();
    useThatThrows();
    lastIsMasked();
    thrownOnIsAStep();
    aheadOfTheRow();
    fromThisStatementOutward();
    lastThatThrows();
    lastThatCatches();
    emptyUseTakesNothing();
    eightHeld();
    timeoutsHeld();
    onceInAWhile();
    BENCH.close();
  }

  private static void strengths() {
    BENCH.sentence("the first body has a STRENGTH of 1 at least, then use that which was at first, then last 1 at least");
    String[] outers = {"open", "mask", "hard"};
    String[] due = {"1 0 1 0", "1 1 1 1", "2 2 2 2"};
    for (int outer = 0; outer < 3; outer++) {
      Lasting x = Bench.running(outers[outer] + "{first{q=1;}use{q=2;}last{q=3;}q=4;}");
      Bench.times(x, 0, 2);
      String got = "" + x.thread(0, 1);
      x.turn(0);
      for (int i = 0; i < 3; i++) {
        x.turn(0);
        got += " " + x.thread(0, 1);
      }
      BENCH.dueRow("in " + outers[outer], got, due[outer]);
    }
  }

  private static void noStepBetween() {
    BENCH.sentence("between them there is no STEP of their own");
    Lasting x = Bench.running("first{q=1;}use{q=2;}last{q=3;}r=q;");
    BENCH.dueRow("turns", Bench.times(x, 0, 6), "000002");
    BENCH.due("r", x.local(0, 1), 3);
    BENCH.dueRow("notes", Bench.notes(x), "2/0/3=0 3/0/4=0 4/0/6=0");
  }

  private static void emptyBodies() {
    BENCH.sentence("first, use and last with nothing in them");
    Lasting x = Bench.running("first{}use{}last{}r=1;");
    BENCH.dueRow("in", Bench.turns(x, 0) + Bench.told(x, 0) + Bench.notes(x), "01 1 1 0 1 0 0");
    BENCH.dueRow("all of them behind", Bench.turns(x, 0) + Bench.told(x, 0), "01 0 2 0 0 0 0");
    BENCH.dueRow("notes", Bench.notes(x), "2/0/2=0 3/0/2=0");
    x = Bench.running("first{}use{take a to q;}last{}");
    BENCH.dueRow("use goes in once, though it WAITS", Bench.times(x, 0, 4) + Bench.notes(x), "04442/0/2=0");
    x = Bench.running("first{}use{}last{take a to q;}");
    BENCH.dueRow("last goes in once, though it WAITS", Bench.times(x, 0, 4) + Bench.notes(x), "04442/0/2=0 3/0/2=0");
  }

  private static void firstThatThrows() {
    BENCH.sentence("so a first whose first body THROWS has no last");
    Lasting x = Bench.running("try{first{throw 5;}use{note 1;}last{note 2;}}catch q{}note 3;");
    BENCH.dueRow("turns", Bench.times(x, 0, 5) + Bench.notes(x), "001020/0/4=3 4/0/5=0");
    x = Bench.running("first{take a to q;}use{note 1;}last{note 2;}");
    x.turn(0);
    x.hurl(0, 5);
    BENCH.dueRow("its wait broken", Bench.turns(x, 0) + Bench.notes(x), "31/0/2=5 5/0/2=5");
    x = Bench.running("first{q=1;}use{q=2;}last{q=3;}");
    x.turn(0);
    x.hurl(0, 5);
    BENCH.dueRow("masked, it is not thrown to ahead of its statement", Bench.turns(x, 0) + x.local(0, 0), "01");
  }

  private static void useThatThrows() {
    BENCH.sentence("From the use body of a first: last is next");
    Lasting x = Bench.running("first{}use{throw 5;note 1;}last{note 2;}note 3;");
    BENCH.dueRow("thrown", Bench.times(x, 0, 2) + Bench.told(x, 0), "011 1 2 0 1 0 1");
    BENCH.dueRow("notes", Bench.notes(x), "2/0/2=0 3/0/2=0");
    BENCH.dueRow("last, then it dies", Bench.times(x, 0, 2) + x.died(0), "035");
    x = Bench.running("first{}use{mask{hard{throw 5;}}}last{note 2;}");
    BENCH.dueRow("from deep in it", Bench.times(x, 0, 4) + Bench.told(x, 0), "00011 1 4 0 1 0 1");
    x = Bench.running("first{}use{q=1;q=2;}last{}");
    Bench.times(x, 0, 2);
    x.hurl(0, 6);
    BENCH.dueRow("from its row", Bench.turns(x, 0) + Bench.notes(x), "12/0/2=0 1/0/3=6 3/0/3=0");
    x = Bench.running("hard{first{}use{throw 5;}last{note 2;}}");
    Bench.times(x, 0, 3);
    BENCH.due("the STRENGTH as it was at first, but 1 at least", x.thread(0, 1), 2);
    x = Bench.running("open{first{}use{hard{throw 5;}}last{note 2;}}");
    Bench.times(x, 0, 4);
    BENCH.due("but 1 at least", x.thread(0, 1), 1);
  }

  private static void lastIsMasked() {
    BENCH.sentence("last with a STRENGTH of 1: what comes stands in the ROW, but breaks its waits");
    Lasting x = Bench.running("first{}use{throw 5;}last{q=1;q=2;}");
    Bench.times(x, 0, 2);
    x.hurl(0, 6);
    BENCH.dueRow("done whole, then the value", Bench.times(x, 0, 3) + x.died(0) + x.local(0, 0), "00352");
    x = Bench.running("first{}use{throw 5;}last{take a to q;}");
    Bench.times(x, 0, 2);
    x.hurl(0, 6);
    BENCH.dueRow("its wait is broken: that one goes on", Bench.turns(x, 0) + x.died(0), "36");
    x = Bench.running("hard{first{}use{throw 5;}last{take a to q;}}");
    Bench.times(x, 0, 3);
    x.hurl(0, 6);
    BENCH.dueRow("hard: not", Bench.times(x, 0, 2) + x.thread(0, 6), "441");
  }

  private static void thrownOnIsAStep() {
    BENCH.sentence("and behind that the value is THROWN on: that is a STEP");
    Lasting x = Bench.running("try{first{}use{throw 5;}last{}note 1;}catch q{note q;}");
    BENCH.dueRow("turns", Bench.times(x, 0, 6), "001102");
    BENCH.due("steps", x.thread(0, 2), 6);
    BENCH.dueRow("notes: none from a ROW", Bench.notes(x), "2/0/3=0 3/0/3=0 0/0/5=5 4/0/6=0");
    x = Bench.running("first{}use{throw 5;}last{mask{}}");
    BENCH.dueRow("out of last's own bodies, and on, in one TURN", Bench.times(x, 0, 4) + x.died(0), "01035");
  }

  private static void aheadOfTheRow() {
    BENCH.sentence("(ahead of what is in the ROW)");
    Lasting x = Bench.running("try{first{}use{throw 5;}last{}}catch q{take a to r;}");
    Bench.times(x, 0, 3);
    x.hurl(0, 6);
    BENCH.dueRow("the value", Bench.turns(x, 0) + x.local(0, 0) + " " + Bench.row(x, 0), "15 6:0:6");
    BENCH.dueRow("then the ROW", Bench.turns(x, 0) + x.died(0), "36");
    x = Bench.running("first{}use{throw 5;}last{open{}}");
    Bench.times(x, 0, 3);
    x.hurl(0, 6);
    BENCH.dueRow("though an open body is at its end there", Bench.turns(x, 0) + x.died(0), "35");
    x = Bench.running("first{}use{throw 5;}last{open{q=1;}}");
    Bench.times(x, 0, 3);
    x.hurl(0, 6);
    BENCH.dueRow("an open body not at its end is thrown to", Bench.turns(x, 0) + x.died(0), "36");
  }

  private static void fromThisStatementOutward() {
    BENCH.sentence("from this statement outward");
    Lasting x = Bench.running("try{first{}use{throw 5;}last{try{}catch q{}}}catch r{}");
    BENCH.dueRow("not to a try in last", Bench.times(x, 0, 5) + x.local(0, 0) + x.local(0, 1), "0010105");
    x = Bench.running("first{}use{first{}use{throw 5;}last{note 1;}}last{note 2;}");
    BENCH.dueRow("to an outer use, whose last is next", Bench.times(x, 0, 7) + x.died(0), "00101035");
    BENCH.dueRow("notes", Bench.notes(x), "2/0/2=0 2/0/3=0 3/0/3=0 0/0/4=1 3/0/5=0 0/0/6=2 5/0/7=5");
    x = Bench.running("hard{first{}use{throw 5;}last{}q=1;}");
    BENCH.dueRow("behind it nothing is done", Bench.times(x, 0, 4) + x.local(0, 0), "00130");
  }

  private static void lastThatThrows() {
    BENCH.sentence("what THROWS in last goes on instead of the value");
    Lasting x = Bench.running("try{first{}use{throw 5;}last{throw 6;}}catch q{take a to r;}");
    BENCH.dueRow("turns", Bench.times(x, 0, 5) + x.local(0, 0) + x.thread(0, 6), "0011460");
    x = Bench.running("try{first{}use{}last{throw 6;}}catch q{}");
    BENCH.dueRow("there being no value", Bench.times(x, 0, 4) + x.local(0, 0), "00126");
    x = Bench.running("first{}use{first{}use{throw 5;}last{throw 6;}}last{throw 7;}");
    BENCH.dueRow("one after the other", Bench.times(x, 0, 5) + x.died(0), "001137");
  }

  private static void lastThatCatches() {
    BENCH.sentence("what THROWS in last and is taken there leaves the value");
    Lasting x = Bench.running("first{}use{throw 5;}last{try{throw 6;}catch q{note q;}}");
    BENCH.dueRow("turns", Bench.times(x, 0, 6) + x.died(0), "0101035");
    x = Bench.running("first{}use{throw 5;}last{first{}use{throw 6;}last{note 1;}}");
    BENCH.dueRow("a first in last: its value goes on instead", Bench.times(x, 0, 6) + x.died(0), "0101036");
  }

  private static void emptyUseTakesNothing() {
    BENCH.sentence("a use body that is at its end is gone out of, ahead of the ROW");
    Lasting x = Bench.running("first{}use{}last{note 1;}");
    x.turn(0);
    x.hurl(0, 6);
    BENCH.dueRow("last is done, then it is thrown to", Bench.times(x, 0, 2) + x.died(0), "036");
    BENCH.dueRow("notes", Bench.notes(x), "2/0/2=0 3/0/2=0 0/0/2=1 1/0/3=6 5/0/3=6");
  }

  private static void eightHeld() {
    BENCH.sentence("through 8 lasts, each once");
    Lasting x = Bench.running("first{}use{".repeat(8) + "throw 5;" + "}last{r=r+1;}".repeat(8));
    BENCH.dueRow("turns", Bench.times(x, 0, 9), "000000001");
    BENCH.dueRow("the innermost last", Bench.told(x, 0), "1 1 9 0 8 0 1");
    BENCH.dueRow("each: what it does, and on", Bench.times(x, 0, 16) + x.died(0) + x.local(0, 1), "010101010101010358");
    BENCH.due("notes: 8 use, 8 last, DIED", x.notes(), 17);
    x = Bench.running("first{}use{throw 5;}last{".repeat(8) + "}".repeat(8));
    BENCH.dueRow("a last in a last, 8 of them", Bench.times(x, 0, 16) + x.thread(0, 4), "01010101010101018");
    BENCH.dueRow("the innermost is thrown on, through all", Bench.turns(x, 0) + x.died(0), "35");
  }

  private static void timeoutsHeld() {
    BENCH.sentence("a TIMEOUT is THROWN like a value: last is next, and behind that it is THROWN on");
    Lasting x = Bench.running("within 2{first{}use{take a to q;}last{note 1;}}else{note 2;}");
    BENCH.dueRow("thrown in use", Bench.times(x, 0, 3) + Bench.told(x, 0), "0011 1 3 0 2 0 1");
    BENCH.dueRow("last, on to else, and its note", Bench.times(x, 0, 4), "0102");
    BENCH.dueRow("notes", Bench.notes(x), "2/0/3=0 1/0/3=0 3/0/3=0 0/0/4=1 0/0/6=2 4/0/7=0");
    x = Bench.running("try{within 2{first{}use{take a to q;}last{throw 6;}}else{note 2;}}catch r{}");
    BENCH.dueRow("what last THROWS goes instead", Bench.times(x, 0, 5) + x.local(0, 1), "000116");
    x = Bench.running("within 3{try{first{}use{take a to q;}last{try{throw 6;}catch r{}}}catch s{note 1;}}else{note 2;}");
    BENCH.dueRow("a value taken in last does not make a value of it", Bench.times(x, 0, 9), "000101102");
    BENCH.dueRow("notes", Bench.notes(x), "2/0/4=0 1/0/4=0 3/0/4=0 0/0/8=2 4/0/9=0");
    x = Bench.running("try{first{}use{throw 5;}last{within 0{take a to q;}}}catch r{note r;}");
    BENCH.dueRow("nor a TIMEOUT taken in last one of a value", Bench.times(x, 0, 8), "00101102");
    BENCH.dueRow("notes", Bench.notes(x), "2/0/3=0 3/0/3=0 1/0/5=0 0/0/7=5 4/0/8=0");
  }

  private static void onceInAWhile() {
    BENCH.sentence("what was begun is ended once, each time around");
    Lasting x = Bench.running("while(q<2){try{first{r=r+1;}use{q=q+1;throw q;}last{s=s+1;}}catch t{}}");
    for (int i = 0; i < 40; i++) {
      x.turn(0);
    }
    BENCH.dueRow("locals", Bench.locals(x, 0), "2 2 2 2 0 0 0 0 0 0");
    int used = 0;
    int ended = 0;
    for (int i = 0; i < x.notes(); i++) {
      used += x.note(i, 0) == 2 ? 1 : 0;
      ended += x.note(i, 0) == 3 ? 1 : 0;
    }
    BENCH.dueRow("use and last", used + " " + ended, "2 2");
  }
}
