/** Promise 8, throws: outward through bodies to a try, or to the end of the THREAD. */
public final class Promise08ThrowsTest {
  private static final Bench BENCH = new Bench("Promise 8, throws");

  public static void main(String[] args) {
    fromTheInnermost();
    localIsTheValue();
    strengthOfTheHandler();
    handlerIsNext();
    notFromTheSecondBody();
    otherBodiesAreLeft();
    strengthBehindWhatIsLeft();
    triesBesideOneAnother();
    fromAllItDies();
    rowIsEmptyThen();
    fromEight();
    anyValue();
    aroundAWhile();
    BENCH.close();
  }

  private static void fromTheInnermost() {
    BENCH.sentence("THROWN goes outward, from the innermost body that the THREAD is in");
    Lasting x = Bench.running("try{try{try{throw 5;}catch q{note 1;}note 4;}catch r{note 2;}}catch s{note 3;}");
    BENCH.dueRow("turns", Bench.times(x, 0, 7), "0001002");
    BENCH.dueRow("the innermost try alone", Bench.notes(x), "0/0/5=1 0/0/6=4 4/0/7=0");
    BENCH.dueRow("locals", Bench.locals(x, 0), "5 0 0 0 0 0 0 0 0 0");
  }

  private static void localIsTheValue() {
    BENCH.sentence("From the first body of a try: the LOCAL is the value");
    for (int letter = 0; letter < 10; letter++) {
      char name = (char) ('q' + letter);
      Lasting x = Bench.running(name + "=3;try{throw " + name + "+4;}catch " + name + "{}");
      BENCH.dueRow("turns", Bench.times(x, 0, 3), "001");
      for (int other = 0; other < 10; other++) {
        BENCH.due("local", x.local(0, other), other == letter ? 7 : 0);
      }
    }
  }

  private static void strengthOfTheHandler() {
    BENCH.sentence("the STRENGTH as it was at the try, but 1 at least");
    String[] outers = {"open", "mask", "hard"};
    int[] due = {1, 1, 2};
    for (int outer = 0; outer < 3; outer++) {
      for (String inner : outers) {
        Lasting x = Bench.running(outers[outer] + "{try{" + inner + "{throw 1;}}catch q{note 1;}note 2;}");
        BENCH.dueRow("turns", Bench.times(x, 0, 4), "0001");
        BENCH.due(inner + " in a try in " + outers[outer], x.thread(0, 1), due[outer]);
        Bench.times(x, 0, 2);
        BENCH.due("behind it as before", x.thread(0, 1), outer);
      }
    }
  }

  private static void handlerIsNext() {
    BENCH.sentence("the second body is next");
    Lasting x = Bench.running("try{throw 5;}catch q{note 1;}note 2;");
    BENCH.dueRow("thrown", Bench.times(x, 0, 2) + Bench.told(x, 0), "011 1 2 0 1 0 0");
    BENCH.dueRow("no STEP of it yet", Bench.notes(x), "");
    BENCH.dueRow("then it, then behind", Bench.times(x, 0, 3) + Bench.notes(x), "0020/0/3=1 0/0/4=2 4/0/5=0");
    x = Bench.running("try{throw 5;}catch q{}note 2;");
    BENCH.dueRow("an empty one", Bench.times(x, 0, 2) + x.thread(0, 4) + Bench.times(x, 0, 2), "01102");
    x = Bench.running("try{throw 5;}catch q{}note 2;");
    Bench.times(x, 0, 2);
    x.hurl(0, 7);
    BENCH.due("behind an empty one it is open again", x.turn(0), 3);
    x = Bench.running("try{}catch q{note 1;}note 2;");
    BENCH.dueRow("nothing thrown", Bench.times(x, 0, 3) + Bench.notes(x), "0020/0/2=2 4/0/3=0");
  }

  private static void notFromTheSecondBody() {
    BENCH.sentence("from the second body it goes on outward");
    Lasting x = Bench.running("try{throw 5;}catch q{throw 6;}note 2;");
    BENCH.dueRow("turns", Bench.times(x, 0, 3) + x.died(0), "0136");
    BENCH.due("q", x.local(0, 0), 5);
    x = Bench.running("try{try{throw 5;}catch q{throw 6;}}catch r{}");
    BENCH.dueRow("to the outer one", Bench.times(x, 0, 5) + x.local(0, 0) + x.local(0, 1), "0011256");
    x = Bench.running("try{try{throw 5;}catch q{take a to z;}}catch r{}");
    Bench.times(x, 0, 3);
    x.hurl(0, 9);
    BENCH.dueRow("its wait is broken", Bench.turns(x, 0) + x.local(0, 1), "19");
  }

  private static void otherBodiesAreLeft() {
    BENCH.sentence("Other bodies are just left");
    for (String body : new String[] {
      "if(1){throw 5;}", "if(0){}else{throw 5;}", "while(1){throw 5;}", "mask{throw 5;}", "hard{throw 5;}", "open{throw 5;}",
      "within 99{throw 5;}", "within 99{throw 5;}else{note 1;}", "first{throw 5;}use{note 1;}last{note 2;}",
    }) {
      Lasting x = Bench.running("try{" + body + "note 3;}catch q{}note 4;");
      BENCH.dueRow(body, Bench.times(x, 0, 3) + Bench.told(x, 0), "0011 1 3 0 1 0 0");
      BENCH.dueRow(body, Bench.times(x, 0, 2) + Bench.notes(x), "020/0/4=4 4/0/5=0");
      x = Bench.running(body);
      BENCH.dueRow(body + " alone", Bench.times(x, 0, 2) + Bench.told(x, 0), "033 0 2 0 0 0 0");
    }
    Lasting x = Bench.running("try{try{throw 1;}catch r{throw 5;}note 3;}catch q{}");
    BENCH.dueRow("catch", Bench.times(x, 0, 5) + x.local(0, 0), "001125");
    x = Bench.running("try{first{}use{}last{throw 5;}note 3;}catch q{}");
    BENCH.dueRow("last", Bench.times(x, 0, 4) + x.local(0, 0), "00125");
    x = Bench.running("try{within 0{q=1;}else{throw 5;}note 3;}catch q{}");
    BENCH.dueRow("else of within", Bench.times(x, 0, 5) + x.local(0, 0), "001125");
  }

  private static void strengthBehindWhatIsLeft() {
    BENCH.sentence("(the STRENGTH being as before them)");
    Lasting x = Bench.running("hard{try{open{mask{open{throw 5;}}}}catch q{r=1;}s=1;}t=1;");
    BENCH.dueRow("in", Bench.times(x, 0, 6), "000001");
    BENCH.due("in catch as at the try", x.thread(0, 1), 2);
    Bench.times(x, 0, 2);
    BENCH.due("behind try", x.thread(0, 1), 2);
    x.turn(0);
    BENCH.due("behind hard", x.thread(0, 1), 0);
    x = Bench.running("try{hard{throw 5;}}catch q{r=1;}s=1;");
    Bench.times(x, 0, 5);
    BENCH.due("behind a try that was open", x.thread(0, 1), 0);
  }

  private static void triesBesideOneAnother() {
    BENCH.sentence("a try that is behind, or not yet there, takes nothing");
    Lasting x = Bench.running("try{q=1;}catch q{}throw 5;try{}catch r{}");
    BENCH.dueRow("turns", Bench.times(x, 0, 3) + x.died(0), "0035");
    x = Bench.running("try{q=1;}catch r{}q=2;");
    Bench.times(x, 0, 2);
    x.hurl(0, 5);
    BENCH.dueRow("nor one that is at its end", Bench.turns(x, 0) + x.local(0, 1), "30");
  }

  private static void fromAllItDies() {
    BENCH.sentence("From all: the THREAD has DIED of it");
    Lasting x = Bench.running("throw 5;note 1;", "q=1;");
    BENCH.dueRow("turns", Bench.turns(x, 0, 0, 1), "3-0");
    BENCH.dueRow("told", Bench.told(x, 0), "3 0 1 0 0 0 0");
    BENCH.due("died", x.died(0), 5);
    BENCH.dueRow("notes", Bench.notes(x), "5/0/1=5");
  }

  private static void rowIsEmptyThen() {
    BENCH.sentence("(When it is DONE or has DIED its ROW is empty.)");
    Lasting x = Bench.running("hard{throw 5;}", "send 4 to 0;");
    Bench.turns(x, 0, 1);
    for (int v = 1; v <= 8; v++) {
      x.hurl(0, v);
    }
    BENCH.due("nine stand there", x.thread(0, 3), 9);
    BENCH.due("DIED", x.turn(0), 3);
    BENCH.due("none", x.thread(0, 3), 0);
    BENCH.due("row", x.row(0, 0, 0), -1);
    BENCH.due("value", x.value(0, 0), 0);
    x = Bench.running("q=1;");
    x.hurl(0, 7);
    x.hurl(0, 8);
    BENCH.dueRow("DIED of the first of two", Bench.turns(x, 0) + x.died(0) + x.thread(0, 3), "370");
    x = Bench.running("");
    x.turn(0);
    BENCH.due("DONE", x.thread(0, 3), 0);
  }

  private static void fromEight() {
    BENCH.sentence("outward through 8 bodies");
    Lasting x = Bench.running("mask{".repeat(8) + "throw 5;" + "}".repeat(8));
    BENCH.dueRow("dies", Bench.times(x, 0, 9) + Bench.told(x, 0), "0000000033 0 9 0 0 0 0");
    x = Bench.running("try{" + "hard{".repeat(7) + "throw 5;" + "}".repeat(7) + "}catch q{}");
    BENCH.dueRow("to a try around", Bench.times(x, 0, 9) + Bench.told(x, 0), "0000000011 1 9 0 1 0 0");
    x = Bench.running("try{".repeat(8) + "throw 5;" + "}catch q{}".repeat(8));
    BENCH.dueRow("to the innermost of 8", Bench.times(x, 0, 9) + Bench.told(x, 0), "0000000011 1 9 0 8 0 0");
    x = Bench.running("try{".repeat(8) + "throw 1;" + "}catch q{throw q+1;}".repeat(8));
    BENCH.dueRow("from one to the next of 8", Bench.times(x, 0, 17) + x.died(0), "000000001111111139");
  }

  private static void anyValue() {
    BENCH.sentence("a value is any number of 64 bits");
    for (long v : new long[] {0, 1, -1, Long.MIN_VALUE, Long.MAX_VALUE}) {
      Lasting x = Bench.running("try{q=1;}catch r{}throw r;");
      x.turn(0);
      x.hurl(0, v);
      BENCH.dueRow("turns", Bench.times(x, 0, 2), "13");
      BENCH.due("caught", x.local(0, 1), v);
      BENCH.due("died", x.died(0), v);
      BENCH.due("noted", x.noted(0), v);
    }
  }

  private static void aroundAWhile() {
    BENCH.sentence("a try takes each time around");
    Lasting x = Bench.running("while(q<3){try{throw q+1;}catch q{}}");
    BENCH.dueRow("turns", Bench.times(x, 0, 11), "00100100102");
    BENCH.due("q", x.local(0, 0), 3);
  }
}
