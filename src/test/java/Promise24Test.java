/** Promise 24, clear: what is as at the beginning, and the three things that stay. */
public final class Promise24Test {
  private static final Bench BENCH = new Bench("Promise 24");

  private static final String[] SIX = {
    "hard{q=3;within 2{note 1;first{}use{throw 6;}last{take b to q;}}}", "throw 9;", "send 5 to 0;",
    "within 900{within 800{r=8;take b to r;}}", "", "mask{try{take a to z;}catch z{take c to q;}}",
  };

  public static void main(String[] args) {
    howManyNotes();
    asAtTheBeginning();
    programsStay();
    tapeStays();
    placeStays();
    nothingIsRemembered();
    ofANewObject();
    BENCH.close();
  }

  private static Lasting busy() {
    Lasting x = Bench.running(SIX);
    Bench.turns(x, 0, 0, 0, 0, 0, 0, 0, 1, 2, 3, 3, 3, 4, 5, 5, 5);
    x.hurl(0, 4);
    x.hurl(5, 4);
    x.turn(5);
    x.fill(6, 2);
    x.fill(7, 0);
    return x;
  }

  private static void howManyNotes() {
    BENCH.sentence("how many NOTES there were");
    Lasting x = busy();
    int notes = x.notes();
    BENCH.due("some", notes > 4 ? 1 : 0, 1);
    BENCH.due("clear", x.clear(), notes);
    BENCH.due("clear again", x.clear(), 0);
    Lasting y = Bench.running("note 1;");
    BENCH.due("none yet", y.clear(), 0);
    y.start(0, 0);
    y.turn(0);
    BENCH.due("one", y.clear(), 1);
  }

  private static void asAtTheBeginning() {
    BENCH.sentence("All is as at the beginning");
    Lasting x = busy();
    x.clear();
    BENCH.dueRow("all", Bench.world(x), Bench.world(new Lasting()));
    BENCH.dueRow("no TURNS", Bench.turns(x, 0, 1, 2, 3, 4, 5), "------");
    BENCH.due("no hurl", x.hurl(0, 1), -1);
    BENCH.due("play", x.play(1, 2000), 0);
    for (int box = 0; box < 8; box++) {
      BENCH.due("fill", x.fill(box, 1), 1);
    }
  }

  private static void programsStay() {
    BENCH.sentence("but PROGRAMS");
    Lasting x = new Lasting();
    for (int p = 0; p < 12; p++) {
      Bench.program(x, "note " + p + ";" + "q=1;".repeat(p));
    }
    x.start(0, 3);
    x.turn(0);
    x.clear();
    for (int p = 0; p < 12; p++) {
      BENCH.due("told(" + p + ", 0)", x.told(p, 0), p + 1);
    }
    BENCH.due("text(), the 13th", x.text(), -1);
    BENCH.due("start", x.start(5, 11), 1);
    x.turn(5);
    BENCH.dueRow("the last of them", Bench.notes(x), "0/5/1=11");
  }

  private static void tapeStays() {
    BENCH.sentence("but the tape");
    Lasting x = new Lasting();
    Bench.feed(x, "note 123;q=1;q=2;q=3;q=4;");
    x.clear();
    BENCH.due("feed", Bench.feedAll(x, ' '), 45);
    x.clear();
    BENCH.due("end", x.end(0), 25);
    x.clear();
    BENCH.due("text()", x.text(), 0);
    BENCH.due("told(0, 0)", x.told(0, 0), 5);
    Lasting y = new Lasting();
    y.clear();
    BENCH.due("an empty one", y.end(0), -1);
  }

  private static void placeStays() {
    BENCH.sentence("but place()");
    Lasting x = new Lasting();
    Bench.program(x, "q=1;q=2;!");
    x.clear();
    BENCH.due("place()", x.place(), 8);
    x.text();
    x.clear();
    BENCH.due("NONE stays, too", x.place(), -1);
  }

  private static void nothingIsRemembered() {
    BENCH.sentence("All is as at the beginning: what is begun anew goes as it did at first");
    for (int other = 0; other < 6; other++) {
      Lasting x = busy();
      x.clear();
      Lasting y = new Lasting();
      for (String text : SIX) {
        Bench.program(y, text);
      }
      for (int t = 0; t < 6; t++) {
        BENCH.due("start", x.start(t, (t + other) % 6), 1);
        y.start(t, (t + other) % 6);
      }
      BENCH.dueRow("begun", Bench.all(x), Bench.all(y));
      for (int i = 0; i < 20; i++) {
        BENCH.due("play", x.play(i, 9), y.play(i, 9));
        BENCH.dueRow("all", Bench.all(x), Bench.all(y));
      }
    }
  }

  private static void ofANewObject() {
    BENCH.sentence("of a new object nothing is otherwise");
    Lasting x = new Lasting();
    BENCH.due("clear", x.clear(), 0);
    BENCH.dueRow("all", Bench.all(x), Bench.all(new Lasting()));
  }
}
