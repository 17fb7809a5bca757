/** Promise 8, turn: each answer, who takes no TURN, and the order in which a TURN does its STEP. */
public final class Promise08TurnTest {
  private static final Bench BENCH = new Bench("Promise 8, turn");

  public static void main(String[] args) {
    answers();
    noTurn();
    noTurnNoClock();
    allSix();
    strengthAtFirst();
    outOfEndedBodies();
    outOfEight();
    rowWhenOpen();
    firstOfTheRow();
    rowAheadOfTheStatement();
    statementsWhole();
    justTheirExp();
    justGoIn();
    behindWithoutAStep();
    whileAtItsExpAgain();
    behindTheLast();
    strengthsOfBodies();
    expsRunOver();
    BENCH.close();
  }

  private static void answers() {
    BENCH.sentence("0 a STEP was done");
    BENCH.due("turn", Bench.running("q=1;").turn(0), 0);
    BENCH.sentence("1 something was THROWN in it, and it RUNS");
    BENCH.dueRow("by itself", Bench.times(Bench.running("try{throw 1;}catch q{}"), 0, 2), "01");
    BENCH.dueRow("by a send to itself", Bench.times(Bench.running("try{send 1 to 0;}catch q{}"), 0, 2), "01");
    Lasting x = Bench.running("try{q=1;}catch q{}");
    x.turn(0);
    x.hurl(0, 1);
    BENCH.due("from its row", x.turn(0), 1);
    BENCH.dueRow("a TIMEOUT", Bench.times(Bench.running("within 1{q=1;}"), 0, 2), "01");
    BENCH.dueRow("thrown on", Bench.times(Bench.running("try{first{}use{throw 1;}last{}}catch q{}"), 0, 4), "0011");
    BENCH.sentence("2 it is DONE");
    BENCH.due("turn", Bench.running("").turn(0), 2);
    BENCH.sentence("3 it has DIED");
    BENCH.due("turn", Bench.running("throw 1;").turn(0), 3);
    BENCH.sentence("4 it WAITS");
    BENCH.due("turn", Bench.running("take a to q;").turn(0), 4);
  }

  private static void noTurn() {
    BENCH.sentence("NONE: it does not RUN");
    Lasting x = Bench.running("", "throw 1;");
    Bench.turns(x, 0, 1);
    BENCH.dueRow("DONE, DIED, never begun", Bench.turns(x, 0, 1, 2, 3, 4, 5), "------");
    BENCH.due("turn(6)", x.turn(6), -1);
    BENCH.due("turn(7)", x.turn(7), -1);
    for (int far : Bench.FAR) {
      BENCH.due("turn(" + far + ")", x.turn(far), -1);
    }
  }

  private static void noTurnNoClock() {
    BENCH.sentence("NONE: no TURN is taken, the CLOCK stands, no TIMEOUT comes");
    Lasting x = Bench.running("hard{within 1{while(1){}}}", "");
    Bench.turns(x, 1, 0, 0);
    String before = Bench.all(x);
    Bench.turns(x, 1, 2, 6, -1, 1);
    BENCH.dueRow("all", Bench.all(x), before);
    BENCH.due("a TURN", x.turn(0), 0);
    BENCH.dueRow("and it comes", Bench.row(x, 0), "7:2:0");
  }

  private static void allSix() {
    BENCH.sentence("THREADS 0 .. 5");
    Lasting x = Bench.running("note 0;", "note 1;", "note 2;", "note 3;", "note 4;", "note 5;");
    BENCH.dueRow("turns", Bench.turns(x, 5, 0, 4, 1, 3, 2), "000000");
    BENCH.dueRow("notes", Bench.notes(x), "0/5/1=5 0/0/2=0 0/4/3=4 0/1/4=1 0/3/5=3 0/2/6=2");
  }

  private static void strengthAtFirst() {
    BENCH.sentence("A THREAD's STRENGTH is 0 open (at first); LOCALS are 0 at first");
    Lasting x = Bench.running("note q+r+s+t+u+v+w+x+y+z;");
    BENCH.due("strength", x.thread(0, 1), 0);
    BENCH.dueRow("locals", Bench.locals(x, 0), "0 0 0 0 0 0 0 0 0 0");
    x.turn(0);
    BENCH.due("noted", x.noted(0), 0);
    Lasting y = Bench.running("q=1;");
    y.hurl(0, 5);
    BENCH.due("open: its first TURN throws", y.turn(0), 3);
  }

  private static void outOfEndedBodies() {
    BENCH.sentence("out of bodies that are at their ends (the STRENGTH being as it was before them)");
    Lasting x = Bench.running("mask{q=1;}r=1;");
    Bench.times(x, 0, 2);
    x.hurl(0, 5);
    BENCH.dueRow("at its end it is masked yet", Bench.told(x, 0), "1 1 2 1 1 0 0");
    BENCH.due("open behind mask", x.turn(0), 3);
    x = Bench.running("mask{open{q=1;}r=1;}s=1;");
    Bench.times(x, 0, 3);
    x.hurl(0, 5);
    BENCH.dueRow("masked behind open", Bench.turns(x, 0) + Bench.told(x, 0), "01 1 4 1 1 0 0");
    BENCH.due("r", x.local(0, 1), 1);
    BENCH.due("open behind mask", x.turn(0), 3);
    x = Bench.running("hard{open{}}q=1;");
    Bench.times(x, 0, 2);
    x.hurl(0, 5);
    BENCH.due("an empty open body takes no TURN to throw in", x.turn(0), 3);
    x = Bench.running("hard{open{}q=1;}");
    Bench.times(x, 0, 2);
    x.hurl(0, 5);
    BENCH.dueRow("nor is anything thrown in it", Bench.turns(x, 0) + x.local(0, 0), "01");
  }

  private static void outOfEight() {
    BENCH.sentence("out of all the bodies that are at their ends, 8 in one TURN");
    Lasting x = Bench.running("mask{hard{open{mask{hard{open{mask{hard{q=1;}}}}}}}}r=2;");
    BENCH.dueRow("in", Bench.times(x, 0, 9), "000000000");
    BENCH.dueRow("at their ends", Bench.told(x, 0), "1 2 9 0 8 0 0");
    BENCH.due("turn", x.turn(0), 0);
    BENCH.dueRow("out", Bench.told(x, 0), "1 0 10 0 0 0 0");
    BENCH.due("r", x.local(0, 1), 2);
    x = Bench.running("first{}use{}last{".repeat(8) + "}".repeat(8));
    BENCH.dueRow("through 8 firsts, eight times in", Bench.times(x, 0, 9), "000000002");
    BENCH.due("notes: 8 use, 8 last, one DONE", x.notes(), 17);
    x = Bench.running("first{".repeat(8) + "}use{}last{}".repeat(8));
    BENCH.dueRow("through all three bodies of 8", Bench.times(x, 0, 9), "000000002");
    BENCH.due("notes: 8 use, 8 last, one DONE", x.notes(), 17);
    x = Bench.running("first{".repeat(8) + "}use{}last{}".repeat(8) + "r=1;");
    BENCH.dueRow("and on behind them", Bench.times(x, 0, 10) + x.local(0, 1), "00000000021");
  }

  private static void rowWhenOpen() {
    BENCH.sentence("if its STRENGTH is 0 and its ROW is not empty");
    String[] texts = {"q=1;q=2;", "mask{q=1;q=2;}", "hard{q=1;q=2;}", "mask{open{q=1;q=2;}}"};
    String[] due = {"3", "00", "00", "3"};
    for (int i = 0; i < texts.length; i++) {
      Lasting x = Bench.running(texts[i]);
      Bench.times(x, 0, i == 0 ? 0 : i == 3 ? 2 : 1);
      x.hurl(0, 5);
      BENCH.dueRow("turns of " + texts[i], Bench.times(x, 0, due[i].length()), due[i]);
    }
    BENCH.dueRow("an empty ROW throws nothing", Bench.times(Bench.running("q=1;"), 0, 2), "02");
  }

  private static void firstOfTheRow() {
    BENCH.sentence("the first one there is taken, and THROWN here");
    Lasting x = Bench.running("try{q=1;}catch q{open{try{r=1;}catch r{}}}");
    x.turn(0);
    for (int v = 11; v <= 13; v++) {
      x.hurl(0, v);
    }
    BENCH.dueRow("one alone", Bench.turns(x, 0) + " " + Bench.row(x, 0), "1 6:0:12 6:0:13");
    BENCH.due("q", x.local(0, 0), 11);
    BENCH.dueRow("open in catch: the next, ahead of try", Bench.turns(x, 0, 0) + " " + x.died(0), "03 12");
  }

  private static void rowAheadOfTheStatement() {
    BENCH.sentence("Else the next statement");
    Lasting x = Bench.running("try{note 1;take a to r;put 2 in b;send 3 to 1;}catch q{}", "");
    x.fill(0, 4);
    x.turn(0);
    x.hurl(0, 5);
    BENCH.due("turn", x.turn(0), 1);
    BENCH.dueRow("note is not done", Bench.notes(x), "1/0/2=5");
    x = Bench.running("try{take a to r;}catch q{}");
    x.turn(0);
    x.fill(0, 4);
    x.hurl(0, 5);
    BENCH.dueRow("nor take", Bench.turns(x, 0) + x.full(0) + x.local(0, 1), "110");
    x = Bench.running("try{put 2 in b;}catch q{}");
    x.turn(0);
    x.hurl(0, 5);
    BENCH.dueRow("nor put", Bench.turns(x, 0) + x.full(1), "10");
    x = Bench.running("try{send 3 to 1;}catch q{}", "take a to q;");
    x.turn(0);
    x.hurl(0, 5);
    BENCH.dueRow("nor send", Bench.turns(x, 0) + Bench.row(x, 1), "1");
    x = Bench.running("try{throw 3;}catch q{}");
    x.turn(0);
    x.hurl(0, 5);
    BENCH.dueRow("nor throw", Bench.turns(x, 0) + x.local(0, 0), "15");
    x = Bench.running("while(1){try{mask{}}catch q{}}");
    Bench.times(x, 0, 2);
    x.hurl(0, 5);
    BENCH.dueRow("nor going in", Bench.turns(x, 0) + Bench.told(x, 0), "11 1 3 0 2 0 0");
  }

  private static void statementsWhole() {
    BENCH.sentence("it is done, exps worked, whole");
    Lasting x = Bench.running("q=1+2*3-(4<5)+(6=6)*(7#7)--8;put q*q in d;take d to z;note z-q;");
    BENCH.dueRow("one TURN each", Bench.times(x, 0, 5), "00002");
    BENCH.due("q", x.local(0, 0), 14);
    BENCH.due("z", x.local(0, 9), 196);
    BENCH.due("noted", x.noted(0), 182);
  }

  private static void justTheirExp() {
    BENCH.sentence("if and while (at each time around) just their exp");
    Lasting x = Bench.running("if(1){q=1;}");
    BENCH.dueRow("if", Bench.turns(x, 0) + x.local(0, 0) + x.thread(0, 4), "001");
    x = Bench.running("if(0){q=1;}else{r=1;}");
    BENCH.dueRow("else", Bench.turns(x, 0) + x.local(0, 1) + x.thread(0, 4), "001");
    x = Bench.running("if(0){q=1;}");
    BENCH.dueRow("neither", Bench.turns(x, 0) + x.thread(0, 4) + Bench.turns(x, 0), "002");
    x = Bench.running("while(q<2){q=q+1;}");
    BENCH.dueRow("while", Bench.times(x, 0, 6), "000002");
    x = Bench.running("while(0){q=1;}");
    BENCH.dueRow("not once", Bench.turns(x, 0) + x.thread(0, 4) + Bench.turns(x, 0), "002");
    for (String exp : new String[] {"1", "-1", "2", "999999999", "65536*65536"}) {
      x = Bench.running("if(" + exp + "){}");
      BENCH.dueRow("unlike 0: " + exp, Bench.turns(x, 0) + x.thread(0, 4), "01");
      x = Bench.running("while(" + exp + "){}");
      BENCH.dueRow("unlike 0: " + exp, Bench.turns(x, 0) + x.thread(0, 4), "01");
    }
  }

  private static void justGoIn() {
    BENCH.sentence("mask, hard, open, try, first, within just go in");
    for (String begin : new String[] {"mask{", "hard{", "open{", "try{", "first{", "within 5{"}) {
      String rest = begin.startsWith("try") ? "}catch q{}" : begin.startsWith("first") ? "}use{}last{}" : "}";
      Lasting x = Bench.running(begin + "q=1;" + rest);
      BENCH.dueRow(begin, Bench.turns(x, 0) + x.local(0, 0) + x.thread(0, 4), "001");
      x = Bench.running(begin + rest);
      BENCH.dueRow(begin + " with nothing in it", Bench.turns(x, 0) + x.thread(0, 4) + Bench.turns(x, 0), "012");
    }
  }

  private static void behindWithoutAStep() {
    BENCH.sentence("Where a body ends it goes on behind without a STEP");
    for (String text : new String[] {
      "if(1){q=1;}r=1;", "if(0){}else{q=1;}r=1;", "mask{q=1;}r=1;", "hard{q=1;}r=1;", "open{q=1;}r=1;", "try{q=1;}catch q{}r=1;",
      "within 9{q=1;}r=1;", "within 9{q=1;}else{q=2;}r=1;", "first{q=1;}use{}last{}r=1;", "first{}use{q=1;}last{}r=1;",
      "first{}use{}last{q=1;}r=1;",
    }) {
      Lasting x = Bench.running(text);
      BENCH.dueRow(text, Bench.times(x, 0, 4) + Bench.locals(x, 0).substring(0, 3), "00021 1");
    }
    BENCH.dueRow("catch", Bench.times(Bench.running("try{throw 1;}catch q{q=1;}r=1;"), 0, 5), "01002");
    BENCH.dueRow("else of within", Bench.times(Bench.running("within 0{q=1;}else{q=2;}r=1;"), 0, 5), "01002");
  }

  private static void whileAtItsExpAgain() {
    BENCH.sentence("(while: at its exp again)");
    Lasting x = Bench.running("while(q<2){if(1){q=q+1;}}note q;");
    BENCH.dueRow("turns", Bench.times(x, 0, 9), "000000002");
    BENCH.due("noted", x.noted(0), 2);
    x = Bench.running("while(r<2){while(q<2){q=q+1;}r=r+1;q=0;}");
    BENCH.dueRow("two of them, eight TURNS around", Bench.times(x, 0, 18), "000000000000000002");
  }

  private static void behindTheLast() {
    BENCH.sentence("Behind the last statement the STEP is that it is DONE");
    Lasting x = Bench.running("");
    BENCH.dueRow("no statement", Bench.times(x, 0, 2) + Bench.told(x, 0), "2-2 0 1 0 0 0 0");
    x = Bench.running("mask{mask{}}");
    BENCH.dueRow("out of bodies in the same TURN", Bench.times(x, 0, 3) + Bench.told(x, 0), "0022 0 3 0 0 0 0");
    x = Bench.running("mask{}");
    x.turn(0);
    x.hurl(0, 5);
    BENCH.dueRow("but its ROW is ahead", Bench.turns(x, 0) + x.died(0), "35");
  }

  private static void strengthsOfBodies() {
    BENCH.sentence("mask: in its body the STRENGTH is 1, if it was 0; hard: 2; open: 0");
    String[] names = {"open", "mask", "hard"};
    int[] before = {0, 1, 2};
    int[][] due = {{0, 1, 2}, {0, 1, 2}, {0, 2, 2}};
    for (int outer = 0; outer < 3; outer++) {
      for (int inner = 0; inner < 3; inner++) {
        Lasting x = Bench.running(names[outer] + "{" + names[inner] + "{q=1;}r=1;}");
        x.turn(0);
        BENCH.due(names[outer], x.thread(0, 1), before[outer]);
        x.turn(0);
        BENCH.due(names[inner] + " in " + names[outer], x.thread(0, 1), due[outer][inner]);
        Bench.times(x, 0, 2);
        BENCH.due("behind " + names[inner], x.thread(0, 1), before[outer]);
      }
    }
  }

  private static void noted(String exp, long want) {
    Lasting x = Bench.running("x=65536*65536;y=x*32768;z=y*65536;note " + exp + ";");
    Bench.times(x, 0, 4);
    BENCH.due("note " + exp, x.noted(0), want);
  }

  /** x is 2 to the 32nd, y 2 to the 47th, z 2 to the 63rd, which is the least of all. */
  private static void expsRunOver() {
    BENCH.sentence("64 bits, running over");
    noted("x", 1L << 32);
    noted("x*x", 0);
    noted("z", Long.MIN_VALUE);
    noted("z-1", Long.MAX_VALUE);
    noted("z-1+1", Long.MIN_VALUE);
    noted("-z", Long.MIN_VALUE);
    noted("z+z", 0);
    noted("z*2", 0);
    noted("z*-1", Long.MIN_VALUE);
    noted("(z-1)*2", -2);
    noted("(z-1)*(z-1)", 1);
    noted("-(z-1)", Long.MIN_VALUE + 1);
    BENCH.sentence("< = # give 1 or 0");
    noted("z<z-1", 1);
    noted("z-1<z", 0);
    noted("z<0", 1);
    noted("0<z", 0);
    noted("z<z", 0);
    noted("z=-z", 1);
    noted("z#-z", 0);
    noted("z=0", 0);
    noted("x#0", 1);
    noted("x=0", 0);
    noted("x<1", 0);
    noted("0<x", 1);
  }
}
