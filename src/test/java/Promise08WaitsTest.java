/** Promise 8, waits: take and put at empty and full BOXES, and what breaks a wait at each STRENGTH. */
public final class Promise08WaitsTest {
  private static final Bench BENCH = new Bench("Promise 8, waits");

  public static void main(String[] args) {
    takeOfAnEmptyOne();
    takeOfAFullOne();
    putInAFullOne();
    putInAnEmptyOne();
    noughtIsANumber();
    everyBox();
    oneOfTwo();
    nothingIsDone();
    byStrength();
    firstOneAlone();
    notWaitingNotBroken();
    afterEndedBodies();
    BENCH.close();
  }

  private static void takeOfAnEmptyOne() {
    BENCH.sentence("take WAITS while the BOX is empty");
    Lasting x = Bench.running("q=5;take a to q;");
    BENCH.dueRow("turns", Bench.times(x, 0, 4), "0444");
    BENCH.due("q", x.local(0, 0), 5);
    x.fill(1, 9);
    BENCH.due("another BOX is full", x.turn(0), 4);
    x.fill(0, 9);
    BENCH.dueRow("its own", Bench.times(x, 0, 2), "02");
  }

  private static void takeOfAFullOne() {
    BENCH.sentence("else it is empty then, the LOCAL has its number");
    for (long v : new long[] {1, -1, Long.MIN_VALUE, Long.MAX_VALUE}) {
      Lasting x = Bench.running("take a to q;take a to r;");
      x.fill(0, v);
      BENCH.dueRow("takes once", Bench.times(x, 0, 2), "04");
      BENCH.due("q", x.local(0, 0), v);
      BENCH.due("full", x.full(0), 0);
      BENCH.due("box", x.box(0), 0);
    }
  }

  private static void putInAFullOne() {
    BENCH.sentence("put WAITS while the BOX is full");
    Lasting x = Bench.running("put 5 in a;");
    x.fill(0, 9);
    BENCH.dueRow("turns", Bench.times(x, 0, 3), "444");
    BENCH.due("box", x.box(0), 9);
    Lasting y = Bench.running("put 5 in a;put 6 in a;", "take a to q;");
    BENCH.dueRow("its own number is there", Bench.turns(y, 0, 0, 1, 0), "0400");
    BENCH.due("box", y.box(0), 6);
  }

  private static void putInAnEmptyOne() {
    BENCH.sentence("else it has the number");
    Lasting x = Bench.running("q=7;put q*q in h;");
    BENCH.dueRow("turns", Bench.times(x, 0, 3), "002");
    BENCH.due("full", x.full(7), 1);
    BENCH.due("box", x.box(7), 49);
    BENCH.due("fill", x.fill(7, 1), -1);
  }

  private static void noughtIsANumber() {
    BENCH.sentence("BOXES are empty or have a number, 0 too");
    Lasting x = Bench.running("put 0 in a;put 0 in a;", "q=5;take a to q;take a to q;");
    BENCH.dueRow("turns", Bench.turns(x, 0, 0, 1, 1, 1), "04004");
    BENCH.due("q", x.local(1, 0), 0);
    Lasting y = Bench.running("q=5;take b to q;");
    y.fill(1, 0);
    BENCH.dueRow("takes a filled 0", Bench.times(y, 0, 2) + y.local(0, 0) + y.full(1), "0000");
  }

  private static void everyBox() {
    BENCH.sentence("BOXES are a .. h");
    for (int box = 0; box < 8; box++) {
      char name = (char) ('a' + box);
      Lasting x = Bench.running("put 5 in " + name + ";", "take " + name + " to q;");
      x.turn(0);
      for (int other = 0; other < 8; other++) {
        BENCH.due("full(" + other + ")", x.full(other), other == box ? 1 : 0);
      }
      BENCH.dueRow("take", Bench.turns(x, 1) + x.local(1, 0) + x.full(box), "050");
    }
  }

  private static void oneOfTwo() {
    BENCH.sentence("of two that wait for one number one alone has it");
    Lasting x = Bench.running("take a to q;", "take a to q;", "put 3 in a;", "put 4 in a;");
    BENCH.dueRow("turns", Bench.turns(x, 0, 1, 2, 3, 1, 0, 3, 0), "44040400");
    BENCH.dueRow("q", x.local(0, 0) + " " + x.local(1, 0), "4 3");
  }

  private static void nothingIsDone() {
    BENCH.sentence("else nothing is done (but the CLOCK goes)");
    Lasting x = Bench.running("hard{q=3;take a to q;}", "hard{put 1 in b;}");
    x.fill(1, 8);
    Bench.turns(x, 0, 0, 1);
    x.hurl(0, 5);
    x.hurl(1, 6);
    BENCH.dueRow("turns", Bench.turns(x, 0, 1, 0, 1), "4444");
    BENCH.due("clock", x.clock(), 7);
    BENCH.dueRow("told", Bench.told(x, 0) + ", " + Bench.told(x, 1), "1 2 2 1 1 0 0, 1 2 1 1 1 0 0");
    BENCH.dueRow("rows", Bench.row(x, 0) + ", " + Bench.row(x, 1), "6:0:5, 6:0:6");
    BENCH.dueRow("boxes", x.full(0) + " " + x.box(1), "0 8");
    BENCH.due("q", x.local(0, 0), 3);
    BENCH.due("notes", x.notes(), 0);
  }

  /** A wait at this STRENGTH, with a value in the ROW or none: what its TURN answers. */
  private static void waits(String outer, String statement, boolean thrownTo, int due) {
    Lasting x = Bench.running(outer + "{try{" + statement + "}catch z{}}", "hard{while(1){}}");
    x.fill(1, 1);
    Bench.turns(x, 1, 0, 0);
    if (thrownTo) {
      x.hurl(0, 77);
    }
    BENCH.due(statement + " in " + outer + (thrownTo ? ", thrown to" : ""), x.turn(0), due);
    BENCH.due("z", x.local(0, 9), due == 1 ? 77 : 0);
    BENCH.due("its row", x.thread(0, 3), thrownTo && due != 1 ? 1 : 0);
    BENCH.dueRow("told from the row", Bench.notes(x), due == 1 ? "1/0/4=77" : "");
  }

  private static void byStrength() {
    BENCH.sentence("At a TURN in which a statement WAITS: if the STRENGTH is 1 and the ROW is not empty, it is THROWN here");
    for (String statement : new String[] {"take a to q;", "put 5 in b;", "send 5 to 1;"}) {
      waits("open", statement, false, 4);
      waits("open", statement, true, 1);
      waits("mask", statement, false, 4);
      waits("mask", statement, true, 1);
      waits("hard", statement, false, 4);
      waits("hard", statement, true, 4);
    }
  }

  private static void firstOneAlone() {
    BENCH.sentence("the first one there is taken");
    Lasting x = Bench.running("mask{try{take a to q;}catch r{try{take a to q;}catch s{}}}");
    Bench.times(x, 0, 3);
    x.hurl(0, 11);
    x.hurl(0, 12);
    BENCH.dueRow("the first", Bench.turns(x, 0) + " " + Bench.row(x, 0), "1 6:0:12");
    BENCH.dueRow("the second, at the next wait", Bench.turns(x, 0, 0) + " " + Bench.row(x, 0), "01 ");
    BENCH.dueRow("r, s", x.local(0, 1) + " " + x.local(0, 2), "11 12");
  }

  private static void notWaitingNotBroken() {
    BENCH.sentence("one that need not WAIT is done, masked, whatever is in the ROW");
    Lasting x = Bench.running("mask{take a to q;put 2 in a;send 3 to 2;send 4 to 1;note q;}", "");
    x.turn(1);
    x.fill(0, 9);
    x.turn(0);
    x.hurl(0, 5);
    BENCH.dueRow("turns", Bench.times(x, 0, 6), "000003");
    BENCH.dueRow("notes", Bench.notes(x), "4/1/1=0 0/0/7=9 1/0/8=5 5/0/8=5");
    BENCH.due("box", x.box(0), 2);
  }

  private static void afterEndedBodies() {
    BENCH.sentence("a TURN that WAITS has gone out of ended bodies, and its STRENGTH there counts");
    Lasting x = Bench.running("mask{hard{q=1;}take a to q;}");
    Bench.times(x, 0, 3);
    BENCH.dueRow("in hard, at its end", Bench.told(x, 0), "1 2 3 0 2 0 0");
    BENCH.dueRow("waits in mask", Bench.turns(x, 0) + Bench.told(x, 0), "41 1 3 0 1 0 0");
    x.hurl(0, 5);
    BENCH.due("broken", x.turn(0), 3);
    x = Bench.running("hard{mask{q=1;}take a to q;}");
    Bench.times(x, 0, 3);
    x.hurl(0, 5);
    BENCH.dueRow("waits in hard", Bench.turns(x, 0) + Bench.told(x, 0), "41 2 3 1 1 0 0");
  }
}
