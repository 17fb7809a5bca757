/** Promises 8, 10, 14, 15, 17 to 19 where something is thrown: rows, masks, sends, handlers, times. */
public final class ThrowsTest {
  private static final Bench BENCH = new Bench("ThrowsTest");

  public static void main(String[] args) {
    hurls();
    hurlLimit();
    masks();
    waitsBroken();
    tries();
    triesAndRows();
    sends();
    sendsToItself();
    sendsToOneThatDoesNotRun();
    sendsBroken();
    sendsToOneThatEnds();
    sendsCross();
    firsts();
    firstsThrown();
    firstsHoldAhead();
    firstsWithin();
    withins();
    withinsMasked();
    withinsInOrder();
    withinsThrownThrough();
    withinsLeft();
    stuckOrNot();
    stuckLooksAhead();
    BENCH.close();
  }

  private static void hurls() {
    Lasting x = Bench.running("note 1;note 2;");
    BENCH.due("turn", x.turn(0), 0);
    BENCH.due("hurl", x.hurl(0, 7), 1);
    BENCH.dueRow("row", Bench.row(x, 0), "6:0:7");
    BENCH.dueRow("told", Bench.told(x, 0), "1 0 1 1 0 0 0");
    BENCH.dueRow("turns", Bench.times(x, 0, 2), "3-");
    BENCH.due("died", x.died(0), 7);
    BENCH.dueRow("told", Bench.told(x, 0), "3 0 2 0 0 0 0");
    BENCH.dueRow("notes", Bench.notes(x), "0/0/1=1 1/0/2=7 5/0/2=7");
    BENCH.due("hurl to a dead one", x.hurl(0, 7), -1);
    // Also behind the last statement.
    Lasting y = Bench.running("");
    y.hurl(0, Long.MIN_VALUE);
    y.hurl(0, 2);
    BENCH.due("turn", y.turn(0), 3);
    BENCH.due("died", y.died(0), Long.MIN_VALUE);
    BENCH.dueRow("its row is empty", Bench.row(y, 0), "");
    Lasting z = Bench.running("");
    z.turn(0);
    BENCH.due("hurl to one that is done", z.hurl(0, 1), -1);
    BENCH.due("died of one that is done", z.died(0), 0);
  }

  private static void hurlLimit() {
    Lasting x = Bench.running("hard{while(1){}}", "send 50 to 0;");
    x.turn(0);
    for (int i = 1; i <= 4; i++) {
      BENCH.due("hurl", x.hurl(0, i), i);
    }
    BENCH.due("send", x.turn(1), 4);
    for (int i = 5; i <= 8; i++) {
      BENCH.due("hurl", x.hurl(0, i), i + 1);
    }
    BENCH.due("the ninth", x.hurl(0, 9), -1);
    BENCH.dueRow("row", Bench.row(x, 0), "6:0:1 6:0:2 6:0:3 6:0:4 1:0:50 6:0:5 6:0:6 6:0:7 6:0:8");
    for (int wrong : new int[] {-1, 9, Integer.MIN_VALUE, Integer.MAX_VALUE}) {
      BENCH.due("row of none", x.row(0, wrong, 0), -1);
      BENCH.due("value of none", x.value(0, wrong), 0);
    }
    for (int wrong : new int[] {-1, 2, Integer.MIN_VALUE, Integer.MAX_VALUE}) {
      BENCH.due("row's what", x.row(0, 0, wrong), -1);
    }
    BENCH.due("row of one that has none", x.row(2, 0, 0), -1);

    Lasting y = Bench.running("while(1){try{q=1;}catch r{}}");
    for (int i = 1; i <= 8; i++) {
      y.hurl(0, i);
    }
    BENCH.due("the ninth", y.hurl(0, 9), -1);
    BENCH.due("takes the first", y.turn(0), 3);
    Lasting z = Bench.running("try{take a to q;}catch r{take a to q;}");
    z.turn(0);
    for (int i = 1; i <= 8; i++) {
      z.hurl(0, i);
    }
    BENCH.due("takes the first", z.turn(0), 1);
    BENCH.due("r", z.local(0, 1), 1);
    BENCH.due("one more may come", z.hurl(0, 9), 8);
    BENCH.due("and no other", z.hurl(0, 10), -1);
    BENCH.dueRow("row", Bench.row(z, 0), "6:0:2 6:0:3 6:0:4 6:0:5 6:0:6 6:0:7 6:0:8 6:0:9");
  }

  private static void masks() {
    Lasting x = Bench.running("mask{q=1;q=2;}q=3;");
    x.turn(0);
    x.hurl(0, 5);
    BENCH.dueRow("masked, then not", Bench.times(x, 0, 3), "003");
    BENCH.due("q", x.local(0, 0), 2);
    x = Bench.running("mask{q=1;open{q=2;}}");
    x.turn(0);
    x.hurl(0, 5);
    BENCH.dueRow("open in mask", Bench.times(x, 0, 3), "003");
    BENCH.due("q", x.local(0, 0), 1);
    x = Bench.running("hard{open{}q=1;}");
    Bench.times(x, 0, 2);
    x.hurl(0, 5);
    BENCH.dueRow("hard behind open", Bench.times(x, 0, 2), "03");
    x = Bench.running("mask{throw 4;}");
    BENCH.dueRow("its own throw", Bench.times(x, 0, 2), "03");
    x = Bench.running("hard{throw 4;}");
    BENCH.dueRow("its own throw", Bench.times(x, 0, 2), "03");
    BENCH.dueRow("not taken from a row", Bench.notes(x), "5/0/2=4");
  }

  private static void waitsBroken() {
    Lasting x = Bench.running("mask{take a to q;}");
    BENCH.dueRow("waits", Bench.times(x, 0, 2), "04");
    x.hurl(0, 5);
    BENCH.due("broken", x.turn(0), 3);
    BENCH.dueRow("notes", Bench.notes(x), "1/0/3=5 5/0/3=5");
    x = Bench.running("mask{take a to q;note q;}");
    x.turn(0);
    x.hurl(0, 5);
    x.fill(0, 3);
    BENCH.dueRow("does not wait, is not broken", Bench.times(x, 0, 3), "003");
    BENCH.due("q", x.local(0, 0), 3);
    x = Bench.running("hard{take a to q;}");
    x.turn(0);
    x.hurl(0, 5);
    BENCH.dueRow("not broken", Bench.times(x, 0, 3), "444");
    x.fill(0, 3);
    BENCH.dueRow("goes on", Bench.times(x, 0, 2), "03");
    x = Bench.running("mask{try{put 1 in a;}catch q{note q;}}");
    x.fill(0, 3);
    BENCH.dueRow("waits", Bench.times(x, 0, 3), "004");
    x.hurl(0, 5);
    x.hurl(0, 6);
    BENCH.due("broken", x.turn(0), 1);
    BENCH.dueRow("the first alone", Bench.row(x, 0), "6:0:6");
    BENCH.due("box as it was", x.box(0), 3);
    BENCH.dueRow("goes on", Bench.times(x, 0, 2), "03");
    x = Bench.running("try{take a to q;}catch r{note r;}");
    BENCH.dueRow("waits", Bench.times(x, 0, 2), "04");
    x.hurl(0, 8);
    x.fill(0, 3);
    BENCH.dueRow("open: thrown ahead of the statement", Bench.times(x, 0, 3), "102");
    BENCH.due("r", x.local(0, 1), 8);
    BENCH.due("full yet", x.full(0), 1);
  }

  private static void tries() {
    Lasting x = Bench.running("try{throw 5;q=1;}catch q{note q;}note 9;");
    BENCH.dueRow("turns", Bench.times(x, 0, 2), "01");
    BENCH.dueRow("in catch", Bench.told(x, 0), "1 1 2 0 1 0 0");
    BENCH.dueRow("turns", Bench.times(x, 0, 2), "00");
    BENCH.dueRow("behind", Bench.told(x, 0), "1 0 4 0 0 0 0");
    BENCH.dueRow("notes", Bench.notes(x), "0/0/3=5 0/0/4=9");
    BENCH.due("done", x.turn(0), 2);
    x = Bench.running("hard{try{open{throw 5;}}catch q{note 1;}}");
    BENCH.dueRow("turns", Bench.times(x, 0, 4), "0001");
    BENCH.dueRow("as at the try", Bench.told(x, 0), "1 2 4 0 2 0 0");
    x = Bench.running("try{hard{throw 5;}}catch q{note 1;}");
    Bench.times(x, 0, 3);
    BENCH.dueRow("1 at least", Bench.told(x, 0), "1 1 3 0 1 0 0");
    x = Bench.running("mask{open{try{throw 5;}catch q{}}q=7;}");
    Bench.times(x, 0, 4);
    BENCH.dueRow("1 at least", Bench.told(x, 0), "1 1 4 0 3 0 0");
    x.turn(0);
    BENCH.dueRow("out of all three", Bench.told(x, 0), "1 1 5 0 1 0 0");
    x = Bench.running("try{throw 1;}catch q{throw q+1;}");
    BENCH.dueRow("thrown in catch", Bench.times(x, 0, 3), "013");
    BENCH.due("died", x.died(0), 2);
    x = Bench.running("try{try{throw 1;}catch q{throw 2;}}catch r{note q;note r;}");
    BENCH.dueRow("two tries", Bench.times(x, 0, 7), "0011002");
    BENCH.dueRow("notes", Bench.notes(x), "0/0/5=1 0/0/6=2 4/0/7=0");
    x = Bench.running("try{if(1){while(1){mask{throw 3;}}}}catch q{}r=1;");
    BENCH.dueRow("out of many", Bench.times(x, 0, 7), "0000102");
    BENCH.due("r", x.local(0, 1), 1);
    x = Bench.running("while(q<2){try{throw q+1;}catch q{}}");
    BENCH.dueRow("around", Bench.times(x, 0, 8), "00100102");
    x = Bench.running("try{}catch q{note 1;}note 2;");
    BENCH.dueRow("no throw", Bench.times(x, 0, 3), "002");
    BENCH.dueRow("notes", Bench.notes(x), "0/0/2=2 4/0/3=0");
  }

  private static void triesAndRows() {
    Lasting x = Bench.running("try{throw 1;}catch q{note 1;note 2;}note 3;");
    Bench.times(x, 0, 2);
    x.hurl(0, 7);
    BENCH.dueRow("masked in catch", Bench.times(x, 0, 3), "003");
    x = Bench.running("try{q=1;}catch r{note 1;}note 3;");
    Bench.times(x, 0, 2);
    x.hurl(0, 7);
    BENCH.due("a try at its end does not take it", x.turn(0), 3);
    x = Bench.running("try{q=1;q=2;}catch r{note r;}note 3;");
    Bench.times(x, 0, 2);
    x.hurl(0, 7);
    x.hurl(0, 8);
    BENCH.dueRow("the first one is taken", Bench.times(x, 0, 3), "103");
    BENCH.dueRow("notes", Bench.notes(x), "1/0/3=7 0/0/4=7 1/0/5=8 5/0/5=8");
  }

  private static void sends() {
    Lasting x = Bench.running("q=6;send q+1 to 1;note 1;", "take a to q;");
    BENCH.dueRow("waits from the first turn on", Bench.turns(x, 0, 0), "04");
    BENCH.dueRow("row", Bench.row(x, 1), "0:0:7");
    BENCH.dueRow("waits", Bench.turns(x, 0, 0), "44");
    BENCH.dueRow("once", Bench.row(x, 1), "0:0:7");
    BENCH.due("thrown there", x.turn(1), 3);
    BENCH.due("died", x.died(1), 7);
    BENCH.dueRow("goes on", Bench.turns(x, 0, 0, 0), "002");
    BENCH.dueRow("told", Bench.told(x, 0), "2 0 4 0 0 0 0");
    BENCH.dueRow("notes", Bench.notes(x), "1/1/5=7 5/1/5=7 0/0/7=1 4/0/8=0");
    // To a masked one it stands till that one is open.
    x = Bench.running("while(1){send 3 to 5;q=q+1;}");
    Bench.program(x, "while(1){mask{r=1;r=2;}try{r=3;}catch q{s=s+q;}}");
    x.start(5, 1);
    BENCH.dueRow("in mask", Bench.turns(x, 5, 5), "00");
    BENCH.dueRow("sent", Bench.turns(x, 0, 0, 5, 5, 0), "04004");
    BENCH.due("out of mask: thrown at the try", x.turn(5), 3);
  }

  private static void sendsToItself() {
    Lasting x = Bench.running("try{send 3 to 0;}catch q{}");
    BENCH.dueRow("turns", Bench.times(x, 0, 3), "012");
    BENCH.due("q", x.local(0, 0), 3);
    BENCH.dueRow("not from a row", Bench.notes(x), "4/0/3=0");
    x = Bench.running("hard{send 3 to 0;}");
    x.turn(0);
    x.hurl(0, 4);
    BENCH.due("hard too", x.turn(0), 3);
    BENCH.due("died of its own", x.died(0), 3);
  }

  private static void sendsToOneThatDoesNotRun() {
    Lasting x = Bench.running("send 3 to 1;send 4 to 2;", "");
    x.turn(1);
    BENCH.dueRow("done, never begun", Bench.times(x, 0, 3), "002");
    BENCH.dueRow("no row", Bench.row(x, 1), "");
    x.start(1, 1);
    BENCH.dueRow("nor later", Bench.row(x, 1), "");
  }

  private static void sendsBroken() {
    Lasting x = Bench.running("try{send 7 to 1;}catch q{note q;}", "mask{while(1){}}");
    BENCH.dueRow("sent", Bench.turns(x, 1, 0, 0), "004");
    x.hurl(1, 1);
    BENCH.dueRow("row", Bench.row(x, 1), "0:0:7 6:0:1");
    x.hurl(0, 5);
    BENCH.due("broken", x.turn(0), 1);
    BENCH.dueRow("the value goes", Bench.row(x, 1), "6:0:1");
    BENCH.dueRow("goes on", Bench.turns(x, 0, 0), "02");
    x = Bench.running("mask{try{send 7 to 1;}catch q{}}", "mask{while(1){}}");
    BENCH.dueRow("in", Bench.turns(x, 1, 0, 0), "000");
    x.hurl(0, 5);
    BENCH.due("masked: broken in its first turn", x.turn(0), 1);
    BENCH.dueRow("no value is there", Bench.row(x, 1), "");
    x = Bench.running("mask{send 7 to 1;}", "mask{while(1){}}");
    BENCH.dueRow("sent", Bench.turns(x, 1, 0, 0), "004");
    x.hurl(0, 5);
    BENCH.due("masked: broken, dies", x.turn(0), 3);
    BENCH.dueRow("the value goes", Bench.row(x, 1), "");
    x = Bench.running("hard{send 7 to 1;}", "mask{while(1){}}");
    BENCH.due("in", x.turn(0), 0);
    x.hurl(0, 5);
    BENCH.dueRow("hard: waits on", Bench.turns(x, 1, 0, 0, 0), "0444");
    BENCH.dueRow("the value stays", Bench.row(x, 1), "0:0:7");
    // A send behind a broken one throws anew.
    x = Bench.running("try{send 7 to 1;}catch q{send 8 to 1;send 9 to 1;}", "mask{while(1){}}");
    BENCH.dueRow("sent", Bench.turns(x, 1, 0, 0), "004");
    x.hurl(0, 5);
    BENCH.dueRow("broken, sent again", Bench.turns(x, 0, 0, 0), "144");
    BENCH.dueRow("the second value", Bench.row(x, 1), "0:0:8");
    // Thrown there already, then open and thrown to: the statement is not done.
    x = Bench.running("try{send 7 to 1;note 1;}catch q{note q;}", "try{take a to q;}catch r{take a to q;}");
    BENCH.dueRow("sent and thrown", Bench.turns(x, 1, 0, 0, 1), "0041");
    x.hurl(0, 5);
    x.hurl(1, 6);
    BENCH.due("thrown at the send", x.turn(0), 1);
    BENCH.dueRow("nothing else goes", Bench.row(x, 1), "6:0:6");
    // Masked, and thrown there already: it does not wait any more.
    x = Bench.running("mask{send 7 to 1;note 1;}", "try{take a to q;}catch r{take a to q;}");
    BENCH.dueRow("sent and thrown", Bench.turns(x, 1, 0, 0, 1), "0041");
    x.hurl(0, 5);
    BENCH.dueRow("goes on", Bench.turns(x, 0, 0, 0), "003");
  }

  private static void sendsToOneThatEnds() {
    Lasting x = Bench.running("send 7 to 1;note 1;", "mask{q=1;}", "hard{send 8 to 1;}");
    BENCH.dueRow("in mask", Bench.turns(x, 1, 0, 2, 2), "0404");
    BENCH.dueRow("row", Bench.row(x, 1), "0:0:7 2:0:8");
    BENCH.dueRow("dies of the first", Bench.turns(x, 1, 1), "03");
    BENCH.dueRow("row is empty", Bench.row(x, 1), "");
    x.start(1, 1);
    BENCH.dueRow("not sent again", Bench.turns(x, 0, 2), "00");
    BENCH.dueRow("row", Bench.row(x, 1), "");
    BENCH.dueRow("ends", Bench.turns(x, 0, 0, 2), "022");
  }

  private static void sendsCross() {
    Lasting x = Bench.running("try{send 7 to 1;}catch q{}", "try{send 8 to 0;}catch q{}");
    BENCH.dueRow("in", Bench.turns(x, 0, 1, 0), "004");
    BENCH.due("thrown ahead of its send", x.turn(1), 1);
    BENCH.dueRow("no value came", Bench.row(x, 0), "");
    BENCH.dueRow("ends", Bench.turns(x, 0, 0, 1), "022");
    x = Bench.running("mask{try{send 7 to 1;}catch q{}}", "mask{try{send 8 to 0;}catch q{}}");
    BENCH.dueRow("in", Bench.turns(x, 0, 0, 1, 1), "0000");
    BENCH.dueRow("sent; broken in its first turn", Bench.turns(x, 0, 1), "41");
    BENCH.dueRow("no value came", Bench.row(x, 0), "");
    BENCH.due("q", x.local(1, 0), 7);
    x = Bench.running("hard{send 7 to 1;}", "hard{send 8 to 0;}");
    BENCH.dueRow("both wait for ever", Bench.turns(x, 0, 1, 0, 1, 0, 1), "004444");
    BENCH.dueRow("rows", Bench.row(x, 0) + ", " + Bench.row(x, 1), "1:0:8, 0:0:7");
    BENCH.due("stuck", x.stuck(), 1);
  }

  private static void firsts() {
    Lasting x = Bench.running("first{q=1;}use{q=2;}last{q=3;}note q;");
    String[] told = {
      "1 1 1 0 1 0 0", "1 1 2 0 1 0 0", "1 0 3 0 1 0 0", "1 1 4 0 1 0 0", "1 0 5 0 0 0 0", "2 0 6 0 0 0 0",
    };
    for (int i = 0; i < told.length; i++) {
      BENCH.due("turn", x.turn(0), i < 5 ? 0 : 2);
      BENCH.dueRow("turn " + i, Bench.told(x, 0), told[i]);
    }
    BENCH.dueRow("notes", Bench.notes(x), "2/0/3=0 3/0/4=0 0/0/5=3 4/0/6=0");
    x = Bench.running("first{}use{}last{}");
    BENCH.dueRow("no step between", Bench.times(x, 0, 2), "02");
    BENCH.dueRow("notes", Bench.notes(x), "2/0/2=0 3/0/2=0 4/0/2=0");
    x = Bench.running("hard{first{q=1;}use{q=2;}last{q=3;}}");
    BENCH.dueRow("turns", Bench.times(x, 0, 2), "00");
    for (int i = 0; i < 3; i++) {
      x.turn(0);
      BENCH.due("hard in all", x.thread(0, 1), 2);
    }
    x = Bench.running("first{}use{take a to q;}last{}");
    BENCH.dueRow("waits in use", Bench.times(x, 0, 3), "044");
    BENCH.dueRow("gone in once", Bench.notes(x), "2/0/2=0");
  }

  private static void firstsThrown() {
    Lasting x = Bench.running("first{}use{throw 4;}last{note 1;note 2;}");
    BENCH.dueRow("turns", Bench.times(x, 0, 2), "01");
    BENCH.dueRow("in last", Bench.told(x, 0), "1 1 2 0 1 0 1");
    BENCH.dueRow("turns", Bench.times(x, 0, 3), "003");
    BENCH.dueRow("notes", Bench.notes(x), "2/0/2=0 3/0/2=0 0/0/3=1 0/0/4=2 5/0/5=4");
    BENCH.dueRow("told", Bench.told(x, 0), "3 0 5 0 0 0 0");
    x = Bench.running("first{throw 1;}use{}last{}");
    BENCH.dueRow("first's own throw", Bench.times(x, 0, 2), "03");
    BENCH.dueRow("has no last", Bench.notes(x), "5/0/2=1");
    x = Bench.running("first{take a to q;}use{}last{}");
    x.turn(0);
    x.hurl(0, 3);
    BENCH.due("its wait is broken", x.turn(0), 3);
    BENCH.dueRow("has no last", Bench.notes(x), "1/0/2=3 5/0/2=3");
    x = Bench.running("first{}use{throw 1;}last{throw 2;}");
    BENCH.dueRow("thrown in last", Bench.times(x, 0, 3), "013");
    BENCH.due("instead", x.died(0), 2);
    x = Bench.running("first{}use{throw 1;}last{try{throw 2;}catch q{}}");
    BENCH.dueRow("caught in last", Bench.times(x, 0, 3), "010");
    BENCH.dueRow("it holds", Bench.told(x, 0), "1 1 3 0 2 0 1");
    BENCH.dueRow("goes on", Bench.times(x, 0, 2), "13");
    BENCH.due("the first value", x.died(0), 1);
    x = Bench.running("first{q=1;}use{q=2;}last{q=3;}");
    x.turn(0);
    x.hurl(0, 6);
    BENCH.dueRow("masked, then thrown in use", Bench.times(x, 0, 2), "01");
    BENCH.due("q", x.local(0, 0), 1);
    BENCH.dueRow("last and on", Bench.times(x, 0, 2), "03");
    BENCH.dueRow("notes", Bench.notes(x), "2/0/3=0 1/0/3=6 3/0/3=0 5/0/5=6");
    x = Bench.running("first{}use{q=2;}last{q=3;}");
    Bench.times(x, 0, 2);
    x.hurl(0, 6);
    BENCH.dueRow("use at its end", Bench.times(x, 0, 2), "03");
    BENCH.dueRow("notes", Bench.notes(x), "2/0/2=0 3/0/3=0 1/0/4=6 5/0/4=6");
    x = Bench.running("first{}use{throw 1;}last{take a to q;}");
    Bench.times(x, 0, 2);
    x.hurl(0, 6);
    BENCH.due("last's wait is broken", x.turn(0), 3);
    BENCH.due("that one goes on", x.died(0), 6);
    x = Bench.running("hard{first{}use{open{throw 1;}}last{note 5;}}");
    Bench.times(x, 0, 4);
    BENCH.dueRow("last as at first", Bench.told(x, 0), "1 2 4 0 2 0 1");
  }

  private static void firstsHoldAhead() {
    Lasting x = Bench.running("try{first{}use{throw 4;}last{}}catch q{note q;}");
    BENCH.dueRow("turns", Bench.times(x, 0, 3), "001");
    x.hurl(0, 9);
    BENCH.dueRow("an empty last is a turn", Bench.told(x, 0), "1 1 3 1 2 0 1");
    BENCH.due("thrown on ahead of the row", x.turn(0), 1);
    BENCH.due("q", x.local(0, 0), 4);
    BENCH.dueRow("row", Bench.row(x, 0), "6:0:9");
    BENCH.dueRow("in catch", Bench.told(x, 0), "1 1 4 1 1 0 0");
    BENCH.dueRow("goes on", Bench.times(x, 0, 2), "03");
    BENCH.dueRow("notes", Bench.notes(x), "2/0/3=0 3/0/3=0 0/0/5=4 1/0/6=9 5/0/6=9");
    // A last within a use: what is held goes through the outer last.
    x = Bench.running("first{}use{first{}use{throw 8;}last{note 1;}note 7;}last{note 2;}note 3;");
    BENCH.dueRow("turns", Bench.times(x, 0, 7), "0010103");
    BENCH.dueRow("notes", Bench.notes(x), "2/0/2=0 2/0/3=0 3/0/3=0 0/0/4=1 3/0/5=0 0/0/6=2 5/0/7=8");
  }

  private static void firstsWithin() {
    Lasting x = Bench.running("within 3{first{}use{take a to q;}last{note 1;}}else{note 2;}");
    BENCH.dueRow("turns", Bench.times(x, 0, 4), "0041");
    BENCH.dueRow("a timeout is held", Bench.told(x, 0), "1 1 3 0 2 0 1");
    BENCH.dueRow("turns", Bench.times(x, 0, 2), "01");
    BENCH.dueRow("in else", Bench.told(x, 0), "1 0 5 0 1 0 0");
    BENCH.dueRow("turns", Bench.times(x, 0, 2), "02");
    BENCH.dueRow("notes", Bench.notes(x), "2/0/3=0 1/0/4=0 3/0/4=0 0/0/5=1 0/0/7=2 4/0/8=0");
    // What is thrown in last goes instead of a timeout, and the timeout does not come again.
    x = Bench.running("within 3{try{first{}use{take a to q;}last{throw 6;}}catch r{note r;take a to q;}}else{note 2;}");
    BENCH.dueRow("turns", Bench.times(x, 0, 8), "00011044");
    BENCH.due("r", x.local(0, 1), 6);
    BENCH.dueRow("it has come", Bench.told(x, 0), "1 1 6 0 2 0 0");
  }

  private static void withins() {
    Lasting x = Bench.running("within 3{take a to q;}else{note 1;}note 2;");
    BENCH.due("in", x.turn(0), 0);
    BENCH.dueRow("it may come", Bench.told(x, 0), "1 0 1 0 1 1 0");
    BENCH.dueRow("turns", Bench.times(x, 0, 3), "441");
    BENCH.dueRow("in else", Bench.told(x, 0), "1 0 2 0 1 0 0");
    BENCH.dueRow("turns", Bench.times(x, 0, 3), "002");
    BENCH.dueRow("notes", Bench.notes(x), "1/0/4=0 0/0/5=1 0/0/6=2 4/0/7=0");
    x = Bench.running("within 1{take a to q;}note 2;");
    BENCH.dueRow("no else", Bench.times(x, 0, 2), "01");
    BENCH.dueRow("behind it", Bench.told(x, 0), "1 0 2 0 0 0 0");
    BENCH.dueRow("turns", Bench.times(x, 0, 2), "02");
    x = Bench.running("within 0{take a to q;}else{}note 2;");
    BENCH.due("in", x.turn(0), 0);
    BENCH.due("not come yet", x.thread(0, 5), 1);
    BENCH.due("comes", x.turn(0), 1);
    BENCH.dueRow("in an empty else", Bench.told(x, 0), "1 0 2 0 1 0 0");
    BENCH.dueRow("turns", Bench.times(x, 0, 2), "02");
    x = Bench.running("within 3{q=1;}else{note 1;}note 2;");
    BENCH.dueRow("in time", Bench.times(x, 0, 4), "0002");
    BENCH.dueRow("notes", Bench.notes(x), "0/0/3=2 4/0/4=0");
    x = Bench.running("within 999999999{take a to q;}", "while(1){}");
    x.turn(0);
    x.play(3, 2000);
    BENCH.due("never", x.thread(0, 5), 1);
    // Its own turns and those of others make it due.
    x = Bench.running("hard{within 3{take a to q;}}", "while(1){}");
    BENCH.dueRow("in", Bench.turns(x, 0, 0, 1, 1), "0000");
    BENCH.due("not yet", x.thread(0, 3), 0);
    BENCH.due("another's turn", x.turn(1), 0);
    BENCH.dueRow("now", Bench.row(x, 0), "7:2:0");
    BENCH.dueRow("told", Bench.told(x, 0), "1 2 2 1 2 0 0");
    // A while around it: each time anew.
    x = Bench.running("while(q<2){within 1{take a to r;}else{q=q+1;}}");
    BENCH.dueRow("turns", Bench.times(x, 0, 10), "0010001002");
  }

  private static void withinsMasked() {
    Lasting x = Bench.running("mask{within 1{q=1;q=2;}note 1;}");
    BENCH.dueRow("turns", Bench.times(x, 0, 3), "000");
    BENCH.dueRow("stands in the row", Bench.row(x, 0), "7:2:0");
    BENCH.due("value", x.value(0, 0), 0);
    BENCH.dueRow("once", Bench.times(x, 0, 1) + Bench.row(x, 0), "07:2:0");
    BENCH.dueRow("goes when the body is left", Bench.times(x, 0, 1) + Bench.row(x, 0), "0");
    BENCH.due("done", x.turn(0), 2);
    x = Bench.running("mask{within 1{take a to q;}else{note 3;}}");
    BENCH.dueRow("breaks a wait", Bench.times(x, 0, 3), "001");
    BENCH.dueRow("else as at within", Bench.told(x, 0), "1 1 3 0 2 0 0");
    x = Bench.running("within 1{hard{q=1;q=2;}}else{note 3;}");
    BENCH.dueRow("comes while it goes in", Bench.times(x, 0, 2), "01");
    x = Bench.running("within 2{hard{q=1;q=2;}}else{note 3;}");
    BENCH.dueRow("comes while hard, goes at the end", Bench.times(x, 0, 5), "00002");
    BENCH.dueRow("notes", Bench.notes(x), "4/0/5=0");
    x = Bench.running("within 2{hard{q=1;q=2;}r=1;}else{note 3;}");
    BENCH.dueRow("thrown once it is open", Bench.times(x, 0, 6), "000010");
    BENCH.due("r", x.local(0, 1), 0);
    // Due in the very turn that leaves the body.
    x = Bench.running("within 2{q=1;}else{note 3;}note 4;");
    BENCH.dueRow("turns", Bench.times(x, 0, 4), "0002");
    BENCH.dueRow("notes", Bench.notes(x), "0/0/3=4 4/0/4=0");
  }

  private static void withinsInOrder() {
    Lasting x = Bench.running("hard{within 3{within 2{while(1){}}}}");
    BENCH.dueRow("turns", Bench.times(x, 0, 4), "0000");
    BENCH.dueRow("none yet", Bench.told(x, 0), "1 2 4 0 4 2 0");
    x.turn(0);
    BENCH.dueRow("outermost first", Bench.row(x, 0), "7:2:0 7:3:0");
    x = Bench.running("hard{within 9{within 2{while(1){}}}}");
    Bench.times(x, 0, 5);
    x.hurl(0, 4);
    BENCH.dueRow("inner first", Bench.row(x, 0), "7:3:0 6:0:4");
    BENCH.due("one has not come", x.thread(0, 5), 1);
    Bench.times(x, 0, 6);
    BENCH.dueRow("then outer", Bench.row(x, 0), "7:3:0 6:0:4 7:2:0");
  }

  private static void withinsThrownThrough() {
    Lasting x = Bench.running("within 2{try{take a to q;}catch r{note 5;}}else{note 6;}");
    BENCH.dueRow("no try takes it", Bench.times(x, 0, 5), "00102");
    BENCH.dueRow("notes", Bench.notes(x), "1/0/3=0 0/0/4=6 4/0/5=0");
    // The outer one goes out through the inner one, whose own goes.
    x = Bench.running("within 3{within 2{take a to q;}else{note 1;}}else{note 2;}");
    BENCH.dueRow("turns", Bench.times(x, 0, 6), "004102");
    BENCH.dueRow("row", Bench.row(x, 0), "");
    BENCH.dueRow("notes", Bench.notes(x), "1/0/4=0 0/0/5=2 4/0/6=0");
    // The inner one is thrown first, the outer one stands in the row behind it.
    x = Bench.running("mask{within 4{within 2{take a to q;}else{take a to q;}}else{note 2;}}");
    BENCH.dueRow("turns", Bench.times(x, 0, 5), "00041");
    BENCH.dueRow("in the inner else", Bench.told(x, 0), "1 1 4 0 3 1 0");
    BENCH.dueRow("turns", Bench.times(x, 0, 3), "102");
    BENCH.dueRow("notes", Bench.notes(x), "1/0/5=0 1/0/6=0 0/0/7=2 4/0/8=0");
    // From else a value goes on outward.
    x = Bench.running("within 0{}else{throw 5;}");
    BENCH.dueRow("left ahead of its timeout", Bench.times(x, 0, 2), "02");
    x = Bench.running("within 0{q=1;}else{throw 5;}");
    BENCH.dueRow("turns", Bench.times(x, 0, 3), "013");
  }

  private static void withinsLeft() {
    Lasting x = Bench.running("mask{try{within 1{q=1;throw 5;}else{note 1;}}catch r{note 2;}}");
    BENCH.dueRow("turns", Bench.times(x, 0, 4), "0000");
    BENCH.dueRow("stands", Bench.row(x, 0), "7:3:0");
    BENCH.due("thrown out of it", x.turn(0), 1);
    BENCH.dueRow("goes", Bench.row(x, 0), "");
    BENCH.due("none may come", x.thread(0, 5), 0);
    x = Bench.running("mask{try{within 9{q=1;throw 5;}}catch r{while(1){}}}");
    Bench.times(x, 0, 4);
    BENCH.due("may come", x.thread(0, 5), 1);
    BENCH.due("thrown", x.turn(0), 1);
    BENCH.due("may not", x.thread(0, 5), 0);
    Bench.times(x, 0, 20);
    BENCH.due("nor does it", x.thread(0, 3), 0);
    x = Bench.running("within 9{throw 5;}");
    BENCH.dueRow("dies within", Bench.times(x, 0, 2), "03");
    BENCH.dueRow("told", Bench.told(x, 0), "3 0 2 0 0 0 0");
  }

  private static void stuckOrNot() {
    Lasting x = Bench.running("q=1;");
    BENCH.due("a step", x.stuck(), 0);
    x.turn(0);
    BENCH.due("to be done", x.stuck(), 0);
    x.turn(0);
    BENCH.due("none runs", x.stuck(), 1);
    x = Bench.running("take a to q;", "take b to q;");
    BENCH.due("both wait", x.stuck(), 1);
    x.fill(1, 1);
    BENCH.due("one does not", x.stuck(), 0);
    BENCH.due("nothing was done", x.clock() + x.notes(), 0);
    x = Bench.running("put 1 in a;");
    BENCH.due("put", x.stuck(), 0);
    x.fill(0, 1);
    BENCH.due("put waits", x.stuck(), 1);
    x.hurl(0, 1);
    BENCH.due("open: thrown", x.stuck(), 0);
    x = Bench.running("mask{take a to q;}");
    x.turn(0);
    BENCH.due("masked", x.stuck(), 1);
    x.hurl(0, 1);
    BENCH.due("masked: broken", x.stuck(), 0);
    x = Bench.running("hard{take a to q;}");
    x.turn(0);
    x.hurl(0, 1);
    BENCH.due("hard", x.stuck(), 1);
    x = Bench.running("send 1 to 0;");
    BENCH.due("send to itself", x.stuck(), 0);
    x = Bench.running("send 1 to 1;");
    BENCH.due("send to one never begun", x.stuck(), 0);
    x = Bench.running("send 1 to 1;", "hard{take a to q;}");
    x.turn(1);
    BENCH.due("its first turn is no step", x.stuck(), 1);
    BENCH.due("send", x.turn(0), 4);
    BENCH.due("waits", x.stuck(), 1);
    x = Bench.running("send 1 to 1;", "try{take a to q;}catch q{take a to q;}");
    BENCH.dueRow("sent", Bench.turns(x, 1, 0), "04");
    BENCH.due("is thrown there", x.stuck(), 0);
    BENCH.due("thrown", x.turn(1), 1);
    BENCH.due("goes on", x.stuck(), 0);
    x = Bench.running("within 1{take a to q;}");
    x.turn(0);
    BENCH.due("no clock, no timeout", x.stuck(), 1);
  }

  private static void stuckLooksAhead() {
    Lasting x = Bench.running("mask{q=1;}take a to q;");
    Bench.times(x, 0, 2);
    BENCH.due("at the end, then waits", x.stuck(), 1);
    x.hurl(0, 1);
    BENCH.due("at the end, then thrown", x.stuck(), 0);
    x = Bench.running("hard{mask{q=1;}take a to q;}");
    Bench.times(x, 0, 3);
    x.hurl(0, 1);
    BENCH.due("hard behind it", x.stuck(), 1);
    x = Bench.running("hard{first{}use{take a to q;}last{}}");
    Bench.times(x, 0, 2);
    BENCH.due("waits in use", x.stuck(), 1);
    BENCH.dueRow("it went nowhere", Bench.notes(x) + Bench.told(x, 0), "1 2 2 0 2 0 0");
    x = Bench.running("first{}use{}last{take a to q;}");
    x.turn(0);
    BENCH.due("waits in last", x.stuck(), 1);
    x.hurl(0, 1);
    BENCH.due("last's wait is broken", x.stuck(), 0);
    x = Bench.running("hard{first{}use{throw 1;}last{}take a to q;}");
    Bench.times(x, 0, 3);
    BENCH.due("a value to throw on", x.stuck(), 0);
    x = Bench.running("mask{within 1{q=1;}take a to q;}");
    Bench.times(x, 0, 3);
    BENCH.dueRow("a timeout stands", Bench.row(x, 0), "7:2:0");
    BENCH.due("and would go", x.stuck(), 1);
    BENCH.dueRow("but stands yet", Bench.row(x, 0), "7:2:0");
    x = Bench.running("while(1){q=1;}");
    Bench.times(x, 0, 2);
    BENCH.due("around", x.stuck(), 0);
  }
}
