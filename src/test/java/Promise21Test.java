/** Promise 21, notes: what makes one, and the 400 that there are at most. */
public final class Promise21Test {
  private static final Bench BENCH = new Bench("Promise 21");

  public static void main(String[] args) {
    noneAtFirst();
    whatMakesOne();
    fourHundred();
    lostOnes();
    everyKindIsLost();
    againBehindClear();
    BENCH.close();
  }

  private static void noneAtFirst() {
    BENCH.sentence("How many NOTES there are: none");
    BENCH.due("new", new Lasting().notes(), 0);
    Lasting x = Bench.running("q=1;if(q){}while(0){}mask{}hard{}open{}try{throw 1;}catch r{}put 2 in a;take a to q;within 9{q=1;}");
    BENCH.dueRow("STEPS without NOTES", Bench.times(x, 0, 12) + x.notes(), "0000000100000");
  }

  private static void whatMakesOne() {
    BENCH.sentence("NOTES tell in order: 0 note's value; 1 what was taken from a ROW; 2 use; 3 last; 4 DONE; 5 DIED");
    Lasting x = Bench.running("note 7;first{}use{q=1;q=2;}last{}", "");
    x.turn(1);
    BENCH.dueRow("DONE", Bench.notes(x), "4/1/1=0");
    x.turn(0);
    BENCH.dueRow("note", Bench.notes(x), "4/1/1=0 0/0/2=7");
    x.turn(0);
    BENCH.due("first makes none", x.notes(), 2);
    x.turn(0);
    BENCH.dueRow("use", Bench.notes(x), "4/1/1=0 0/0/2=7 2/0/4=0");
    x.hurl(0, 9);
    x.turn(0);
    BENCH.dueRow("taken, last", Bench.notes(x), "4/1/1=0 0/0/2=7 2/0/4=0 1/0/5=9 3/0/5=0");
    x.turn(0);
    BENCH.dueRow("DIED", Bench.notes(x), "4/1/1=0 0/0/2=7 2/0/4=0 1/0/5=9 3/0/5=0 5/0/6=9");
    BENCH.due("six", x.notes(), 6);
  }

  /** 38 NOTES in 39 TURNS around, so 400 in 411. */
  private static Lasting noting(int notes) {
    Lasting x = Bench.running("while(1){" + "note 5;".repeat(38) + "}", "note 6;", "first{}use{}last{}", "throw 7;", "");
    int turns = notes + (notes + 37) / 38;
    Bench.times(x, 0, turns);
    BENCH.due("notes", x.notes(), notes);
    BENCH.due("clock", x.clock(), turns);
    return x;
  }

  private static void fourHundred() {
    BENCH.sentence("400 at most");
    Lasting x = noting(399);
    x.turn(1);
    BENCH.due("the 400th", x.notes(), 400);
    BENCH.dueRow("it is there", x.note(399, 0) + " " + x.note(399, 1) + " " + x.note(399, 2) + " " + x.noted(399), "0 1 411 6");
    x.turn(0);
    BENCH.due("the 401st", x.notes(), 400);
  }

  private static void lostOnes() {
    BENCH.sentence("(later ones are lost); (those that were lost not)");
    Lasting x = noting(400);
    BENCH.dueRow("they are done all the same", Bench.turns(x, 1, 1, 0, 0), "0200");
    BENCH.due("notes", x.notes(), 400);
    BENCH.dueRow("the last that there is", x.note(399, 0) + " " + x.note(399, 1) + " " + x.noted(399), "0 0 5");
    BENCH.dueRow("the first stays", x.note(0, 0) + " " + x.note(0, 1) + " " + x.note(0, 2) + " " + x.noted(0), "0 0 2 5");
    BENCH.due("note(400, 0)", x.note(400, 0), -1);
  }

  private static void everyKindIsLost() {
    BENCH.sentence("later ones of every kind");
    Lasting x = noting(399);
    BENCH.dueRow("use is the 400th, last and DONE are lost", Bench.turns(x, 2, 2) + x.notes() + x.note(399, 0), "024002");
    BENCH.dueRow("DIED is lost, DONE is lost", Bench.turns(x, 3, 4) + x.notes(), "32400");
    x.hurl(0, 1);
    BENCH.dueRow("taken and DIED are lost", Bench.turns(x, 0) + x.died(0) + x.notes(), "31400");
  }

  private static void againBehindClear() {
    BENCH.sentence("400 again behind clear()");
    Lasting x = noting(400);
    BENCH.due("clear", x.clear(), 400);
    BENCH.due("none", x.notes(), 0);
    x.start(1, 1);
    x.turn(1);
    BENCH.dueRow("the first", Bench.notes(x), "0/1/1=6");
  }
}
