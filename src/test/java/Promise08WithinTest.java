/** Promise 8, within: when a TIMEOUT comes, where it is THROWN to, and when it goes. */
public final class Promise08WithinTest {
  private static final Bench BENCH = new Bench("Promise 8, within");
  private static final String TICKS = "while(1){}";

  public static void main(String[] args) {
    nMoreThanWhenItWentIn();
    withinNought();
    farOff();
    turnsOfOthers();
    comesOnce();
    bodyNotLeft();
    inTheTurnThatLeaves();
    noTryTakesIt();
    toItsElse();
    behindIt();
    strengthAtWithin();
    goesWhenLeftByItsEnd();
    goesWhenThrownThrough();
    goesAlone();
    outermostFirst();
    ofAllThreads();
    outerThroughInner();
    innerThenOuter();
    elseHasNoTimeout();
    eachTimeAround();
    eightWithins();
    fullRow();
    BENCH.close();
  }

  /** The TURN, counted from the one behind going in, in which the TIMEOUT is THROWN. */
  private static void nMoreThanWhenItWentIn() {
    BENCH.sentence("when the CLOCK is n more than it was when it went in");
    for (int n = 1; n <= 12; n++) {
      Lasting x = Bench.running("within " + n + "{take a to q;}");
      BENCH.dueRow("within " + n, Bench.times(x, 0, n + 1), "0" + "4".repeat(n - 1) + "1");
      BENCH.dueRow("its note", Bench.notes(x), "1/0/" + (n + 1) + "=0");
      x = Bench.running("r=1;r=2;r=3;hard{within " + n + "{take a to q;}}");
      BENCH.dueRow("later", Bench.times(x, 0, 5 + n - 1) + Bench.row(x, 0), "00000" + "4".repeat(n - 1));
      BENCH.due("not come yet", x.thread(0, 5), 1);
      BENCH.dueRow("come", Bench.turns(x, 0) + " " + Bench.row(x, 0) + " " + x.thread(0, 5), "4 7:2:0 0");
    }
  }

  private static void withinNought() {
    BENCH.sentence("within 0: the TIMEOUT comes ahead of all in the next TURN");
    Lasting x = Bench.running("within 0{q=1;}else{note 1;}");
    BENCH.dueRow("in", Bench.turns(x, 0) + Bench.told(x, 0), "01 0 1 0 1 1 0");
    BENCH.dueRow("thrown ahead of its first statement", Bench.turns(x, 0) + x.local(0, 0), "10");
    x = Bench.running("within 0{}else{note 1;}note 2;");
    BENCH.dueRow("an empty body is left ahead of that", Bench.times(x, 0, 3) + Bench.notes(x), "0020/0/2=2 4/0/3=0");
    x = Bench.running("hard{within 0{q=1;q=2;}}", TICKS);
    Bench.times(x, 0, 2);
    BENCH.dueRow("at a TURN of another", Bench.turns(x, 1) + " " + Bench.row(x, 0), "0 7:2:0");
  }

  private static void farOff() {
    BENCH.sentence("the longest within does not run out early");
    Lasting x = Bench.running("within 999999999{take a to q;}else{note 1;}", TICKS, TICKS, TICKS, TICKS, TICKS);
    x.turn(0);
    for (int i = 0; i < 200; i++) {
      x.play(i, 2000);
    }
    BENCH.dueRow("told", x.thread(0, 0) + " " + x.thread(0, 3) + " " + x.thread(0, 4) + " " + x.thread(0, 5), "1 0 1 1");
    BENCH.due("the CLOCK is far on", x.clock() > 290000 ? 1 : 0, 1);
    x = Bench.running("within 2000{take a to q;}", TICKS);
    x.turn(0);
    while (x.clock() < 1900) {
      x.play(x.clock(), 300);
    }
    while (x.clock() < 2000) {
      BENCH.due("another's TURN", x.turn(1), 0);
      BENCH.due("not come", x.thread(0, 5), 1);
    }
    BENCH.dueRow("2000 more than 1", x.turn(1) + " " + Bench.row(x, 0), "0 7:1:0");
  }

  private static void turnsOfOthers() {
    BENCH.sentence("each TURN of a THREAD that RUNS makes the CLOCK 1 more, also one that WAITS");
    Lasting x = Bench.running("hard{within 3{take a to q;}}", "take b to q;", TICKS);
    Bench.turns(x, 0, 0, 1, 2);
    BENCH.due("not yet", x.thread(0, 3), 0);
    BENCH.dueRow("now", Bench.turns(x, 1) + Bench.row(x, 0), "47:2:0");
  }

  private static void comesOnce() {
    BENCH.sentence("or later; a TIMEOUT of it comes to the end of the ROW, once");
    Lasting x = Bench.running("hard{within 1{while(1){}}}");
    Bench.times(x, 0, 2);
    x.hurl(0, 5);
    BENCH.dueRow("to the end", Bench.turns(x, 0) + " " + Bench.row(x, 0), "0 6:0:5 7:2:0");
    x.hurl(0, 6);
    Bench.times(x, 0, 30);
    BENCH.dueRow("once", Bench.row(x, 0), "6:0:5 7:2:0 6:0:6");
    x = Bench.running("within 3{try{first{}use{take a to q;}last{throw 6;}}catch r{take a to q;}}else{note 1;}");
    BENCH.dueRow("thrown, and instead of it another value taken: it does not come again", Bench.times(x, 0, 20), "00011" + "4".repeat(15));
    BENCH.dueRow("told", Bench.told(x, 0), "1 1 5 0 2 0 0");
  }

  private static void bodyNotLeft() {
    BENCH.sentence("and its body is not left");
    Lasting x = Bench.running("hard{within 3{q=1;}take a to q;}");
    BENCH.dueRow("left in time", Bench.times(x, 0, 20), "000" + "4".repeat(17));
    BENCH.dueRow("no TIMEOUT", Bench.row(x, 0) + x.thread(0, 5), "0");
    x = Bench.running("hard{try{within 3{throw 1;}}catch q{take a to q;}}");
    BENCH.dueRow("left by a throw", Bench.times(x, 0, 20) + Bench.row(x, 0) + x.thread(0, 5), "0001" + "4".repeat(16) + "0");
  }

  private static void inTheTurnThatLeaves() {
    BENCH.sentence("the TIMEOUT that comes in the TURN that goes out of its body goes with it");
    Lasting x = Bench.running("within 2{q=1;}else{note 3;}note 4;");
    BENCH.dueRow("turns", Bench.times(x, 0, 4) + Bench.notes(x), "00020/0/3=4 4/0/4=0");
    x = Bench.running("within 2{q=1;}else{note 3;}note 4;", TICKS);
    BENCH.dueRow("come at another's TURN, its body being at its end", Bench.turns(x, 0, 0, 1) + " " + Bench.row(x, 0), "000 7:1:0");
    BENCH.dueRow("it goes", Bench.turns(x, 0) + Bench.row(x, 0) + x.noted(0), "04");
    x = Bench.running("within 2{mask{q=1;}}else{note 3;}note 4;");
    BENCH.dueRow("one TURN too late", Bench.times(x, 0, 3), "000");
    BENCH.dueRow("it stands, masked", Bench.row(x, 0), "7:1:0");
    BENCH.dueRow("and goes: out of both bodies ahead of the ROW", Bench.turns(x, 0) + Bench.row(x, 0) + x.noted(0), "04");
  }

  private static void noTryTakesIt() {
    BENCH.sentence("It is THROWN like a value, but no try takes it");
    Lasting x = Bench.running("within 4{try{try{try{take a to q;}catch r{note 1;}}catch r{note 2;}}catch r{note 3;}}else{note 4;}");
    BENCH.dueRow("turns", Bench.times(x, 0, 7) + x.local(0, 1), "00001020");
    BENCH.dueRow("notes", Bench.notes(x), "1/0/5=0 0/0/6=4 4/0/7=0");
    x = Bench.running("try{within 1{q=1;}note 1;}catch r{note 2;}");
    BENCH.dueRow("nor one around it", Bench.times(x, 0, 5), "00102");
  }

  private static void toItsElse() {
    BENCH.sentence("from the body of that within it goes to its else (if there is one)");
    Lasting x = Bench.running("within 1{q=1;}else{r=1;}s=1;");
    BENCH.dueRow("in else", Bench.times(x, 0, 2) + Bench.told(x, 0), "011 0 2 0 1 0 0");
    BENCH.dueRow("then behind", Bench.times(x, 0, 3) + Bench.locals(x, 0).substring(0, 5), "0020 1 1");
    x = Bench.running("within 1{q=1;}else{}s=1;");
    BENCH.dueRow("an empty one", Bench.times(x, 0, 2) + x.thread(0, 4) + Bench.times(x, 0, 2), "01102");
    x = Bench.running("within 9{q=1;}else{r=1;}s=1;");
    BENCH.dueRow("none but by a TIMEOUT", Bench.times(x, 0, 4) + Bench.locals(x, 0).substring(0, 5), "00021 0 1");
    x = Bench.running("try{within 9{throw 1;}else{r=1;}}catch q{}");
    BENCH.dueRow("a value does not go there", Bench.times(x, 0, 4) + x.local(0, 1), "00120");
  }

  private static void behindIt() {
    BENCH.sentence("else behind it");
    Lasting x = Bench.running("within 1{q=1;}s=1;");
    BENCH.dueRow("behind", Bench.times(x, 0, 2) + Bench.told(x, 0), "011 0 2 0 0 0 0");
    BENCH.dueRow("on", Bench.times(x, 0, 2) + Bench.locals(x, 0).substring(0, 5), "020 0 1");
    x = Bench.running("mask{within 1{take a to q;}}");
    BENCH.dueRow("at the end of an outer body", Bench.times(x, 0, 4) + x.thread(0, 2), "00124");
    x = Bench.running("while(q<2){q=q+1;within 0{take a to r;}}");
    BENCH.dueRow("in a while: at its exp again", Bench.times(x, 0, 10), "0001000102");
  }

  private static void strengthAtWithin() {
    BENCH.sentence("the STRENGTH as it was at within");
    String[] outers = {"open", "mask"};
    for (int outer = 0; outer < 2; outer++) {
      for (String tail : new String[] {"}else{note 1;", ""}) {
        Lasting x = Bench.running(outers[outer] + "{within 3{mask{take a to q;}" + tail + "}note 2;}");
        BENCH.dueRow("turns", Bench.times(x, 0, 5), "00041");
        BENCH.due("in " + outers[outer], x.thread(0, 1), outer);
      }
    }
    Lasting x = Bench.running("hard{within 3{open{q=1;q=2;q=3;}}else{note 1;}}");
    BENCH.dueRow("in hard", Bench.times(x, 0, 5) + x.thread(0, 1), "000012");
    x = Bench.running("within 1{q=1;}else{note 1;}");
    Bench.times(x, 0, 2);
    x.hurl(0, 5);
    BENCH.due("0 in else: no 1 at least", x.turn(0), 3);
  }

  private static void goesWhenLeftByItsEnd() {
    BENCH.sentence("When that body is left, by whatever way, its TIMEOUT, if it is still in the ROW, goes: at its end");
    Lasting x = Bench.running("mask{within 1{q=1;q=2;}q=3;}");
    BENCH.dueRow("stands", Bench.times(x, 0, 4) + " " + Bench.row(x, 0), "0000 7:2:0");
    BENCH.dueRow("goes", Bench.turns(x, 0) + Bench.row(x, 0), "0");
    x = Bench.running("mask{within 1{q=1;q=2;}take a to q;}");
    Bench.times(x, 0, 4);
    BENCH.dueRow("so it breaks no wait behind it", Bench.turns(x, 0) + Bench.row(x, 0), "4");
  }

  private static void goesWhenThrownThrough() {
    BENCH.sentence("left by a throw, and by one to outer bodies");
    Lasting x = Bench.running("hard{try{within 1{q=1;throw 5;}else{note 1;}}catch r{take a to q;}}");
    BENCH.dueRow("stands", Bench.times(x, 0, 4) + " " + Bench.row(x, 0), "0000 7:3:0");
    BENCH.dueRow("goes", Bench.turns(x, 0) + Bench.row(x, 0), "1");
    x = Bench.running("hard{try{within 1{within 1{within 1{q=1;throw 5;}}}}catch r{take a to q;}}");
    BENCH.dueRow("three stand", Bench.times(x, 0, 6) + " " + Bench.row(x, 0), "000000 7:3:0 7:4:0 7:5:0");
    BENCH.dueRow("and go", Bench.turns(x, 0) + Bench.row(x, 0), "1");
    x = Bench.running("hard{within 1{q=1;throw 5;}}");
    Bench.times(x, 0, 3);
    BENCH.dueRow("and when it dies", Bench.row(x, 0) + Bench.turns(x, 0) + Bench.row(x, 0), "7:2:03");
  }

  private static void goesAlone() {
    BENCH.sentence("its TIMEOUT goes, what else is in the ROW stays");
    Lasting x = Bench.running("hard{within 40{within 2{q=1;q=2;}while(1){}}}");
    Bench.times(x, 0, 3);
    x.hurl(0, 5);
    Bench.times(x, 0, 2);
    x.hurl(0, 6);
    BENCH.dueRow("in the midst", Bench.row(x, 0), "6:0:5 7:3:0 6:0:6");
    BENCH.dueRow("goes", Bench.turns(x, 0) + " " + Bench.row(x, 0), "0 6:0:5 6:0:6");
    BENCH.due("the outer one may come", x.thread(0, 5), 1);
    Bench.times(x, 0, 36);
    BENCH.dueRow("and does", Bench.row(x, 0), "6:0:5 6:0:6 7:2:0");
  }

  private static void outermostFirst() {
    BENCH.sentence("TIMEOUTS come that are due, the outermost within first");
    Lasting x = Bench.running("hard{within 4{within 3{within 2{while(1){}}}}}");
    BENCH.dueRow("none yet", Bench.times(x, 0, 5) + Bench.row(x, 0) + x.thread(0, 5), "000003");
    BENCH.dueRow("all at once", Bench.turns(x, 0) + " " + Bench.row(x, 0), "0 7:2:0 7:3:0 7:4:0");
    x = Bench.running("hard{within 9{within 7{within 2{while(1){}}}}}");
    Bench.times(x, 0, 12);
    BENCH.dueRow("by the CLOCK, when that differs", Bench.row(x, 0), "7:4:0 7:3:0 7:2:0");
  }

  private static void ofAllThreads() {
    BENCH.sentence("(of all THREADS by numbers)");
    Lasting x = Bench.running("hard{within 9{while(1){}}}", "hard{within 7{while(1){}}}", "hard{within 5{while(1){}}}",
        "hard{within 3{while(1){}}}", "hard{within 1{while(1){}}}", TICKS);
    Bench.turns(x, 0, 1, 2, 3, 4, 0, 1, 2, 3, 4);
    BENCH.due("the first to come", x.thread(4, 3), 0);
    Bench.turns(x, 5, 5, 5, 5);
    for (int t = 0; t < 5; t++) {
      BENCH.due("thread " + t, x.thread(t, 3), t >= 1 ? 1 : 0);
    }
    x.turn(5);
    BENCH.dueRow("thread 0", Bench.row(x, 0), "7:2:0");
  }

  private static void outerThroughInner() {
    BENCH.sentence("an outer TIMEOUT goes out through inner withins, not to their else");
    Lasting x = Bench.running("within 2{within 9{take a to q;}else{note 1;}}else{note 2;}");
    BENCH.dueRow("turns", Bench.times(x, 0, 5) + Bench.notes(x), "001021/0/3=0 0/0/4=2 4/0/5=0");
    BENCH.due("none may come any more", x.thread(0, 5), 0);
    x = Bench.running("within 3{within 2{take a to q;}else{note 1;}}else{note 2;}");
    BENCH.dueRow("both due: the outer one is thrown, the inner one goes", Bench.times(x, 0, 4) + Bench.row(x, 0), "0041");
  }

  private static void innerThenOuter() {
    BENCH.sentence("an inner TIMEOUT goes to the inner else, the outer one comes there yet");
    Lasting x = Bench.running("within 4{within 1{take a to q;}else{take a to q;}note 1;}else{note 2;}");
    BENCH.dueRow("in the inner else", Bench.times(x, 0, 3) + Bench.told(x, 0), "0011 0 3 0 2 1 0");
    BENCH.dueRow("in the outer one", Bench.times(x, 0, 2) + Bench.told(x, 0), "411 0 4 0 1 0 0");
    BENCH.dueRow("notes", Bench.times(x, 0, 2) + Bench.notes(x), "021/0/3=0 1/0/5=0 0/0/6=2 4/0/7=0");
  }

  private static void elseHasNoTimeout() {
    BENCH.sentence("else is behind the within's body: no TIMEOUT of it comes there");
    Lasting x = Bench.running("within 1{q=1;}else{take a to q;}");
    BENCH.dueRow("turns", Bench.times(x, 0, 12) + x.thread(0, 5), "01" + "4".repeat(10) + "0");
  }

  private static void eachTimeAround() {
    BENCH.sentence("n more than when it went in, each time around");
    Lasting x = Bench.running("while(q<3){within 2{take a to r;}else{q=q+1;}}");
    BENCH.dueRow("turns", Bench.times(x, 0, 17), "00410004100041002");
  }

  private static void eightWithins() {
    BENCH.sentence("8 withins within one another");
    StringBuilder text = new StringBuilder();
    for (int i = 0; i < 8; i++) {
      text.append("within ").append(16 - i).append('{');
    }
    Lasting x = Bench.running(text + "take a to q;" + "}".repeat(8), TICKS);
    BENCH.dueRow("in", Bench.times(x, 0, 8) + Bench.told(x, 0), "000000001 0 8 0 8 8 0");
    Bench.times(x, 1, 8);
    BENCH.due("none has come", x.thread(0, 3), 0);
    x.turn(1);
    BENCH.dueRow("all come", Bench.row(x, 0), "7:1:0 7:2:0 7:3:0 7:4:0 7:5:0 7:6:0 7:7:0 7:8:0");
    BENCH.dueRow("told", Bench.told(x, 0), "1 0 8 8 8 0 0");
    BENCH.dueRow("the outermost is thrown, all others go", Bench.turns(x, 0) + Bench.told(x, 0), "11 0 9 0 0 0 0");
  }

  private static void fullRow() {
    BENCH.sentence("8 from outside, 5 sent and 8 TIMEOUTS have room in one ROW");
    Lasting x = Bench.running("send 10 to 5;", "send 11 to 5;", "send 12 to 5;", "send 13 to 5;", "send 14 to 5;", "within 20{".repeat(8)
        + "take a to q;" + "}".repeat(8));
    BENCH.dueRow("in", Bench.times(x, 5, 8), "00000000");
    BENCH.dueRow("sent", Bench.turns(x, 0, 1, 2, 3, 4), "44444");
    for (int v = 1; v <= 8; v++) {
      BENCH.due("hurl", x.hurl(5, v), 5 + v);
    }
    while (x.clock() < 28) {
      BENCH.due("waits", x.turn(0), 4);
    }
    BENCH.due("count", x.thread(5, 3), 21);
    BENCH.dueRow("row", Bench.row(x, 5), "0:0:10 1:0:11 2:0:12 3:0:13 4:0:14 6:0:1 6:0:2 6:0:3 6:0:4 6:0:5 6:0:6 6:0:7 6:0:8 "
        + "7:1:0 7:2:0 7:3:0 7:4:0 7:5:0 7:6:0 7:7:0 7:8:0");
    BENCH.due("the ninth from outside", x.hurl(5, 9), -1);
    BENCH.dueRow("it dies of the first", Bench.turns(x, 5) + x.died(5) + Bench.row(x, 5), "310");
    BENCH.dueRow("all go on", Bench.turns(x, 4, 3, 2, 1, 0), "00000");
  }
}
