/** Promises 20 to 24: the clock, notes and clear. */
public final class NotesTest {
  private static final Bench BENCH = new Bench("NotesTest");

  public static void main(String[] args) {
    kinds();
    wrongNotes();
    limit();
    clears();
    clearsAll();
    BENCH.close();
  }

  private static void kinds() {
    Lasting x = Bench.running("note -3;", "first{}use{take a to q;}last{}");
    x.turn(0);
    Bench.times(x, 1, 2);
    x.hurl(1, 44);
    Bench.turns(x, 1, 0, 1);
    BENCH.dueRow("notes", Bench.notes(x), "0/0/1=-3 2/1/3=0 1/1/4=44 3/1/4=0 4/0/5=0 5/1/6=44");
    BENCH.due("clock", x.clock(), 6);
  }

  private static void wrongNotes() {
    Lasting x = Bench.running("note 3;");
    BENCH.due("note of none", x.note(0, 0), -1);
    BENCH.due("noted of none", x.noted(0), 0);
    x.turn(0);
    for (int wrong : new int[] {-1, 1, 400, Integer.MIN_VALUE, Integer.MAX_VALUE}) {
      BENCH.due("note of none", x.note(wrong, 0), -1);
      BENCH.due("noted of none", x.noted(wrong), 0);
    }
    for (int wrong : new int[] {-1, 3, Integer.MIN_VALUE, Integer.MAX_VALUE}) {
      BENCH.due("note's what", x.note(0, wrong), -1);
    }
  }

  private static void limit() {
    Lasting x = Bench.running("while(1){" + "note 5;".repeat(38) + "}");
    Bench.times(x, 0, 410);
    BENCH.due("notes", x.notes(), 399);
    BENCH.due("turn", x.turn(0), 0);
    BENCH.due("notes", x.notes(), 400);
    Bench.times(x, 0, 30);
    BENCH.due("later ones are lost", x.notes(), 400);
    BENCH.due("the last", x.noted(399), 5);
    BENCH.due("its clock", x.note(399, 2), 411);
    BENCH.due("the first", x.note(0, 2), 2);
    BENCH.due("note 400", x.note(400, 0), -1);
    BENCH.due("noted 400", x.noted(400), 0);
    BENCH.due("clear", x.clear(), 400);
    BENCH.due("none", x.notes(), 0);
  }

  private static void clears() {
    Lasting x = Bench.running("mask{within 5{note 1;take b to q;}}", "q=4;throw 9;", "send 5 to 0;");
    Bench.turns(x, 0, 0, 0, 1, 1, 2);
    x.fill(1, 8);
    Bench.feed(x, "note 7");
    Bench.program(new Lasting(), "");
    BENCH.due("clear", x.clear(), 2);
    BENCH.due("clear again", x.clear(), 0);
    BENCH.due("clock", x.clock(), 0);
    BENCH.due("notes", x.notes(), 0);
    BENCH.due("full", x.full(1), 0);
    BENCH.due("box", x.box(1), 0);
    BENCH.due("died", x.died(1), 0);
    BENCH.due("local", x.local(1, 0), 0);
    BENCH.due("stuck", x.stuck(), 1);
    for (int i = 0; i < 6; i++) {
      BENCH.dueRow("thread " + i, Bench.told(x, i), "0 0 0 0 0 0 0");
      BENCH.due("turn", x.turn(i), -1);
    }
    BENCH.due("programs stay", x.told(2, 0), 1);
    BENCH.due("the tape stays", x.feed(0x20202020, 0x20202020, 0x20202020, 0x20202020, 0x20202020), 26);
    BENCH.due("its text", x.text(), -2);
    BENCH.due("clear", x.clear(), 0);
    BENCH.due("place stays", x.place(), 26);
    BENCH.due("start", x.start(0, 0), 1);
    BENCH.dueRow("turns", Bench.times(x, 0, 4), "0004");
    BENCH.dueRow("notes", Bench.notes(x), "0/0/3=1");
  }

  /** A send that was under way when all was cleared is not remembered. */
  private static void clearsAll() {
    Lasting x = Bench.running("send 5 to 1;", "mask{while(1){}}");
    Bench.turns(x, 1, 0);
    x.clear();
    x.start(0, 0);
    x.start(1, 1);
    BENCH.dueRow("sends anew", Bench.turns(x, 1, 0) + Bench.row(x, 1), "040:0:5");
  }
}
