/** Promise 8, sends: to itself, to one that does not RUN, and waits that end or are broken. */
public final class Promise08SendsTest {
  private static final Bench BENCH = new Bench("Promise 8, sends");
  private static final String STAYS = "hard{while(1){}}";

  public static void main(String[] args) {
    toItself();
    toOneThatDoesNotRun();
    toTheEndOfTheRow();
    atTheFirstTurn();
    oncePerStatement();
    waitsFromThenOn();
    tillThrownThere();
    tillThatOneDied();
    thatOneBegunAnew();
    brokenGoesFromTheRow();
    brokenFromTheMidst();
    brokenInItsFirstTurn();
    brokenByATimeout();
    brokenWhenThrownAlready();
    sentAgain();
    toEachOther();
    inARing();
    fiveToOne();
    BENCH.close();
  }

  private static void toItself() {
    BENCH.sentence("send to itself THROWS at once");
    for (String outer : new String[] {"open", "mask", "hard"}) {
      Lasting x = Bench.running(outer + "{try{send 3 to 0;}catch q{}}");
      Bench.times(x, 0, 2);
      BENCH.dueRow(outer, Bench.turns(x, 0) + x.local(0, 0) + Bench.row(x, 0) + Bench.notes(x), "13");
      x = Bench.running(outer + "{send 3 to 0;}");
      BENCH.dueRow(outer + ", dies", Bench.times(x, 0, 2) + x.died(0), "033");
    }
    Lasting x = Bench.running("hard{try{send 3 to 0;}catch q{}}");
    Bench.times(x, 0, 2);
    x.hurl(0, 8);
    BENCH.dueRow("ahead of what is in its ROW, which stays", Bench.turns(x, 0) + " " + Bench.row(x, 0), "1 6:0:8");
    for (int t = 0; t < 6; t++) {
      Lasting y = new Lasting();
      Bench.program(y, "send 9 to " + t + ";");
      y.start(t, 0);
      BENCH.due("thread " + t + " to itself", y.turn(t), 3);
      BENCH.due("died", y.died(t), 9);
    }
  }

  private static void toOneThatDoesNotRun() {
    BENCH.sentence("To a THREAD that does not RUN it does nothing");
    Lasting x = Bench.running("send 3 to 1;send 4 to 2;send 5 to 5;note 1;", "", "throw 9;");
    Bench.turns(x, 1, 2);
    BENCH.dueRow("DONE, DIED, never begun: a STEP each", Bench.times(x, 0, 5), "00002");
    BENCH.dueRow("rows", Bench.row(x, 1) + Bench.row(x, 2) + Bench.row(x, 5), "");
    BENCH.due("died of its own", x.died(2), 9);
    x.start(1, 0);
    BENCH.dueRow("nor does it come later", Bench.row(x, 1), "");
    x = Bench.running("mask{send 3 to 1;}");
    x.turn(0);
    x.hurl(0, 7);
    BENCH.dueRow("it does not WAIT, so is not broken", Bench.times(x, 0, 2), "03");
  }

  private static void toTheEndOfTheRow() {
    BENCH.sentence("Else the value comes to the end of that one's ROW");
    Lasting x = Bench.running("send 3 to 1;", STAYS, "send 4 to 1;");
    x.turn(1);
    x.hurl(1, 1);
    x.turn(2);
    x.hurl(1, 2);
    x.turn(0);
    x.hurl(1, 5);
    BENCH.dueRow("row", Bench.row(x, 1), "6:0:1 2:0:4 6:0:2 0:0:3 6:0:5");
    BENCH.dueRow("no other row", Bench.row(x, 0) + Bench.row(x, 2), "");
  }

  private static void atTheFirstTurn() {
    BENCH.sentence("(at the first TURN of this statement)");
    Lasting x = Bench.running("q=1;send q to 1;", STAYS);
    x.turn(0);
    BENCH.dueRow("not ahead of it", Bench.row(x, 1), "");
    BENCH.dueRow("at it", Bench.turns(x, 0) + " " + Bench.row(x, 1), "4 0:0:1");
  }

  private static void oncePerStatement() {
    BENCH.sentence("the value comes once");
    Lasting x = Bench.running("send 3 to 1;", STAYS);
    BENCH.dueRow("turns", Bench.times(x, 0, 20), "4".repeat(20));
    BENCH.dueRow("row", Bench.row(x, 1), "0:0:3");
    x = Bench.running("hard{send 3 to 1;}", STAYS);
    x.turn(0);
    BENCH.dueRow("hard", Bench.times(x, 0, 20) + " " + Bench.row(x, 1), "4".repeat(20) + " 0:0:3");
  }

  private static void waitsFromThenOn() {
    BENCH.sentence("and it WAITS from then on (also in that TURN)");
    Lasting x = Bench.running("send 3 to 1;note 1;", "take a to q;");
    BENCH.due("its first TURN", x.turn(0), 4);
    BENCH.dueRow("no STEP yet", Bench.told(x, 0), "1 0 0 0 0 0 0");
    BENCH.dueRow("turns", Bench.times(x, 0, 3), "444");
  }

  private static void tillThrownThere() {
    BENCH.sentence("till it is THROWN there");
    Lasting x = Bench.running("send 3 to 1;note 1;", "try{take a to q;}catch r{take a to q;}");
    BENCH.dueRow("sent", Bench.turns(x, 1, 0, 0), "044");
    BENCH.dueRow("thrown there", Bench.turns(x, 1) + x.local(1, 1), "13");
    BENCH.dueRow("goes on: send is a STEP now, then note", Bench.turns(x, 0, 0, 0), "002");
    x = Bench.running("send 3 to 1;", "mask{q=1;q=2;take a to q;}");
    BENCH.dueRow("masked there: it stands till that one WAITS", Bench.turns(x, 1, 0, 1, 0, 1, 0, 1, 0), "04040430");
  }

  private static void tillThatOneDied() {
    BENCH.sentence("or that one does not RUN any more");
    Lasting x = Bench.running("hard{send 3 to 1;}", "hard{throw 8;}", "send 4 to 1;");
    BENCH.dueRow("sent", Bench.turns(x, 1, 0, 0, 2), "0044");
    BENCH.dueRow("it dies of its own", Bench.turns(x, 1) + x.died(1) + Bench.row(x, 1), "38");
    BENCH.dueRow("both go on", Bench.turns(x, 0, 2, 0, 2), "0022");
    x = Bench.running("send 3 to 1;", "take a to q;", "send 4 to 1;");
    BENCH.dueRow("of two the first is thrown, and it dies", Bench.turns(x, 2, 0, 1) + x.died(1), "4434");
    BENCH.dueRow("the other's is gone with its ROW", Bench.turns(x, 0, 0, 2, 2), "0202");
  }

  private static void thatOneBegunAnew() {
    BENCH.sentence("that one did not RUN meanwhile, though it does again");
    Lasting x = Bench.running("send 3 to 1;note 1;", "hard{throw 8;}");
    BENCH.dueRow("sent, died", Bench.turns(x, 1, 0, 1), "043");
    x.start(1, 1);
    BENCH.dueRow("not sent again", Bench.turns(x, 0) + Bench.row(x, 1), "0");
    BENCH.due("goes on", x.turn(0), 0);
  }

  private static void brokenGoesFromTheRow() {
    BENCH.sentence("if it is broken meanwhile, the value goes from that ROW");
    for (String outer : new String[] {"open", "mask"}) {
      Lasting x = Bench.running(outer + "{try{send 3 to 1;}catch q{}}", STAYS);
      BENCH.dueRow("sent", Bench.turns(x, 1, 0, 0, 0) + " " + Bench.row(x, 1), "0004 0:0:3");
      x.hurl(0, 6);
      BENCH.dueRow("broken", Bench.turns(x, 0) + Bench.row(x, 1) + x.local(0, 0), "16");
    }
    Lasting x = Bench.running("send 3 to 1;", STAYS);
    x.turn(0);
    x.hurl(0, 6);
    BENCH.dueRow("broken, and it dies", Bench.turns(x, 0) + Bench.row(x, 1), "3");
    x = Bench.running("hard{send 3 to 1;}", STAYS);
    x.turn(0);
    x.turn(0);
    x.hurl(0, 6);
    BENCH.dueRow("hard is not broken", Bench.turns(x, 0) + " " + Bench.row(x, 1), "4 0:0:3");
  }

  private static void brokenFromTheMidst() {
    BENCH.sentence("the value goes, the others stay in their order");
    Lasting x = Bench.running("send 3 to 3;", "send 4 to 3;", "send 5 to 3;", STAYS);
    Bench.turns(x, 3, 0);
    x.hurl(3, 9);
    Bench.turns(x, 1, 2);
    BENCH.dueRow("row", Bench.row(x, 3), "0:0:3 6:0:9 1:0:4 2:0:5");
    x.hurl(1, 7);
    BENCH.dueRow("from the midst", Bench.turns(x, 1) + " " + Bench.row(x, 3), "3 0:0:3 6:0:9 2:0:5");
    x.hurl(2, 7);
    BENCH.dueRow("from the end", Bench.turns(x, 2) + " " + Bench.row(x, 3), "3 0:0:3 6:0:9");
    x.hurl(0, 7);
    BENCH.dueRow("from the head", Bench.turns(x, 0) + " " + Bench.row(x, 3), "3 6:0:9");
  }

  private static void brokenInItsFirstTurn() {
    BENCH.sentence("at the first TURN, masked, its ROW not being empty: it is broken at once");
    Lasting x = Bench.running("mask{try{send 3 to 1;}catch q{}}", STAYS);
    Bench.turns(x, 1, 0, 0);
    x.hurl(0, 6);
    BENCH.dueRow("broken", Bench.turns(x, 0) + Bench.row(x, 1) + x.local(0, 0), "16");
  }

  private static void brokenByATimeout() {
    BENCH.sentence("a TIMEOUT breaks it, too");
    Lasting x = Bench.running("within 3{send 5 to 1;}else{note 1;}", STAYS);
    BENCH.dueRow("sent", Bench.turns(x, 1, 0, 0, 1) + " " + Bench.row(x, 1), "0040 0:0:5");
    BENCH.dueRow("run out", Bench.turns(x, 0) + Bench.row(x, 1), "1");
    BENCH.dueRow("else", Bench.turns(x, 0, 0) + Bench.notes(x), "021/0/5=0 0/0/6=1 4/0/7=0");
  }

  private static void brokenWhenThrownAlready() {
    BENCH.sentence("THROWN there already, there is nothing of it to go");
    Lasting x = Bench.running("try{send 3 to 1;note 1;}catch q{}", "try{take a to q;}catch r{hard{take a to q;}}", "send 4 to 1;");
    BENCH.dueRow("sent, thrown", Bench.turns(x, 1, 0, 0, 1), "0041");
    x.hurl(1, 9);
    x.turn(2);
    x.hurl(0, 6);
    BENCH.dueRow("thrown at its send", Bench.turns(x, 0) + x.local(0, 0), "16");
    BENCH.dueRow("the others stay", Bench.row(x, 1), "6:0:9 2:0:4");
    x = Bench.running("mask{send 3 to 1;note 1;}", "try{take a to q;}catch r{}");
    BENCH.dueRow("sent, thrown", Bench.turns(x, 1, 0, 0, 1), "0041");
    x.hurl(0, 6);
    BENCH.dueRow("masked: it does not WAIT any more", Bench.turns(x, 0, 0, 0), "003");
  }

  private static void sentAgain() {
    BENCH.sentence("a later send, or the same one a time around, throws its own value");
    Lasting x = Bench.running("while(1){q=q+1;send q to 1;}", "while(1){try{take a to q;}catch r{s=s*10+r;}}");
    for (int i = 0; i < 4; i++) {
      Bench.turns(x, 1, 1, 0, 0, 0, 1, 1, 0);
    }
    BENCH.due("s", x.local(1, 2), 1234);
    x = Bench.running("try{send 3 to 1;}catch q{send 4 to 1;}", STAYS);
    Bench.turns(x, 0, 0);
    x.hurl(0, 6);
    BENCH.dueRow("broken, then another", Bench.turns(x, 0, 0) + " " + Bench.row(x, 1), "14 0:0:4");
    x = Bench.running("try{send 3 to 1;}catch q{send 4 to 2;}", STAYS, STAYS);
    Bench.turns(x, 0, 0);
    x.hurl(0, 6);
    BENCH.dueRow("to another", Bench.turns(x, 0, 0) + Bench.row(x, 1) + " " + Bench.row(x, 2), "14 0:0:4");
  }

  private static void toEachOther() {
    BENCH.sentence("two that send to each other");
    Lasting x = Bench.running("send 3 to 1;", "send 4 to 0;");
    BENCH.dueRow("open: the second is thrown to ahead of its send", Bench.turns(x, 0, 1, 0, 0), "4302");
    x = Bench.running("mask{send 3 to 1;}", "mask{send 4 to 0;}");
    BENCH.dueRow("masked: the second is broken in its first TURN", Bench.turns(x, 0, 1, 0, 1, 0, 0), "004302");
    BENCH.due("died", x.died(1), 3);
    x = Bench.running("hard{send 3 to 1;}", "hard{send 4 to 0;}");
    BENCH.dueRow("hard: both WAIT for ever", Bench.turns(x, 0, 1, 0, 1, 0, 1), "004444");
    BENCH.due("stuck", x.stuck(), 1);
    x = Bench.running("hard{send 3 to 1;}", "mask{send 4 to 0;}");
    BENCH.dueRow("one masked", Bench.turns(x, 0, 1, 1, 0), "0044");
    BENCH.dueRow("it is broken, its value goes", Bench.turns(x, 1) + Bench.row(x, 0), "3");
    BENCH.due("and the other goes on", x.turn(0), 0);
  }

  private static void inARing() {
    BENCH.sentence("six that send around a ring");
    String[] texts = new String[6];
    for (int t = 0; t < 6; t++) {
      texts[t] = "hard{send " + (10 + t) + " to " + (t + 1) % 6 + ";}";
    }
    Lasting x = Bench.running(texts);
    BENCH.dueRow("turns", Bench.turns(x, 0, 1, 2, 3, 4, 5, 0, 1, 2, 3, 4, 5), "000000444444");
    for (int t = 0; t < 6; t++) {
      int from = (t + 5) % 6;
      BENCH.dueRow("row of " + t, Bench.row(x, t), from + ":0:" + (10 + from));
    }
    BENCH.due("stuck", x.stuck(), 1);
  }

  private static void fiveToOne() {
    BENCH.sentence("five that send to one stand in its ROW by their TURNS");
    Lasting x = Bench.running("send 10 to 3;", "send 11 to 3;", "send 12 to 3;", STAYS, "send 14 to 3;", "send 15 to 3;");
    Bench.turns(x, 3, 5, 1, 0, 4, 2, 5, 1);
    BENCH.dueRow("row", Bench.row(x, 3), "5:0:15 1:0:11 0:0:10 4:0:14 2:0:12");
  }
}
