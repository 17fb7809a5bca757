/** Promise 1, a new object: whatever is asked of it, there is nothing yet. */
public final class Promise01Test {
  private static final Bench BENCH = new Bench("Promise 1");

  public static void main(String[] args) {
    noPrograms();
    noThreads();
    noNotes();
    emptyBoxes();
    emptyTape();
    clockAtNought();
    noPlace();
    objectsApart();
    BENCH.close();
  }

  private static void noPrograms() {
    BENCH.sentence("No PROGRAMS");
    Lasting x = new Lasting();
    for (int p = -1; p <= 12; p++) {
      for (int what = 0; what <= 2; what++) {
        BENCH.due("told(" + p + ", " + what + ")", x.told(p, what), -1);
      }
      BENCH.due("start(0, " + p + ")", x.start(0, p), -1);
    }
    BENCH.due("the first text's number", x.text(), 0);
  }

  private static void noThreads() {
    BENCH.sentence("No THREADS");
    Lasting x = new Lasting();
    for (int t = 0; t < 6; t++) {
      BENCH.dueRow("thread " + t, Bench.told(x, t), "0 0 0 0 0 0 0");
      BENCH.dueRow("locals of " + t, Bench.locals(x, t), "0 0 0 0 0 0 0 0 0 0");
      BENCH.due("died", x.died(t), 0);
      BENCH.due("row", x.row(t, 0, 0), -1);
      BENCH.due("value", x.value(t, 0), 0);
      BENCH.due("turn", x.turn(t), -1);
      BENCH.due("hurl", x.hurl(t, 1), -1);
    }
    BENCH.due("play", x.play(1, 2000), 0);
    BENCH.due("the clock stood", x.clock(), 0);
    BENCH.due("stuck", x.stuck(), 1);
  }

  private static void noNotes() {
    BENCH.sentence("No NOTES");
    Lasting x = new Lasting();
    BENCH.due("notes", x.notes(), 0);
    for (int what = 0; what <= 2; what++) {
      BENCH.due("note(0, " + what + ")", x.note(0, what), -1);
    }
    BENCH.due("noted", x.noted(0), 0);
    BENCH.due("clear", x.clear(), 0);
  }

  private static void emptyBoxes() {
    BENCH.sentence("all BOXES empty");
    Lasting x = new Lasting();
    for (int box = 0; box < 8; box++) {
      BENCH.due("full(" + box + ")", x.full(box), 0);
      BENCH.due("box(" + box + ")", x.box(box), 0);
      BENCH.due("fill(" + box + ")", x.fill(box, 3), 1);
    }
  }

  private static void emptyTape() {
    BENCH.sentence("an empty tape");
    Lasting x = new Lasting();
    BENCH.due("end(0)", x.end(0), -1);
    BENCH.due("end(20)", x.end(20), -1);
    BENCH.due("feed", Bench.feedAll(x, ' '), 20);
    BENCH.fine("", 0, 0, 0);
  }

  private static void clockAtNought() {
    BENCH.sentence("the CLOCK 0");
    BENCH.due("clock", new Lasting().clock(), 0);
  }

  private static void noPlace() {
    BENCH.sentence("a new object has no FAULT");
    BENCH.due("place", new Lasting().place(), -1);
  }

  private static void objectsApart() {
    BENCH.sentence("a new object is new, whatever others did");
    Lasting other = Bench.running("mask{within 2{note 1;take a to q;}}", "throw 5;", "first{}use{throw 4;}last{take b to r;}");
    Bench.turns(other, 0, 1, 0, 2, 0, 2, 2);
    other.fill(3, 9);
    other.hurl(0, 6);
    Bench.program(other, "!");
    Bench.feedAll(other, 'x');
    Lasting x = new Lasting();
    BENCH.dueRow("all", Bench.all(x), Bench.all(new Lasting()));
    BENCH.due("its tape", x.end(20), -1);
    String before = Bench.all(other);
    Bench.running("q=1;note q;take a to z;").play(3, 100);
    BENCH.dueRow("and the other is as it was", Bench.all(other), before);
  }
}
