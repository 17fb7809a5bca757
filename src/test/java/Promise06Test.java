/** Promise 6, told: of programs that there are and are not, and each number at its edges. */
public final class Promise06Test {
  private static final Bench BENCH = new Bench("Promise 6");

  public static void main(String[] args) {
    statements();
    unaries();
    bodiesAtMost();
    noSuchProgram();
    noSuchWhat();
    ofAFault();
    staysAsItWas();
    BENCH.close();
  }

  private static void statements() {
    BENCH.sentence("what = 0 statements");
    BENCH.fine("", 0, 0, 0);
    BENCH.fine("mask{mask{}}", 2, 0, 2);
    BENCH.fine("if(0){q=1;q=2;}else{q=3;}q=4;", 5, 5, 1);
    BENCH.fine("mask{}".repeat(40), 40, 0, 1);
  }

  private static void unaries() {
    BENCH.sentence("1 unaries");
    BENCH.fine("take a to q;", 1, 0, 0);
    BENCH.fine("within 5{}", 1, 0, 1);
    BENCH.fine("send 1 to 5;", 1, 1, 0);
    BENCH.fine("note q;", 1, 1, 0);
    BENCH.fine("note -1;", 1, 2, 0);
    BENCH.fine("note (1);", 1, 2, 0);
    BENCH.fine("note -(-1);", 1, 4, 0);
    BENCH.fine("note 1-1;", 1, 2, 0);
    BENCH.fine("if(1){}", 1, 1, 1);
    BENCH.fine("note 1" + "-1".repeat(59) + ";", 1, 60, 0);
  }

  private static void bodiesAtMost() {
    BENCH.sentence("2 how many bodies lie within one another at most");
    BENCH.fine("q=1;", 1, 1, 0);
    BENCH.fine("mask{}mask{}mask{}", 3, 0, 1);
    BENCH.fine("mask{mask{mask{}}}mask{}", 4, 0, 3);
    BENCH.fine("mask{}mask{mask{mask{}}}", 4, 0, 3);
    BENCH.fine("mask{mask{}}mask{mask{}}", 4, 0, 2);
    BENCH.fine("first{mask{}}use{}last{mask{mask{}}}", 4, 0, 3);
    BENCH.fine("hard{".repeat(8) + "}".repeat(8), 8, 0, 8);
  }

  private static void noSuchProgram() {
    BENCH.sentence("NONE: none such, of PROGRAMS");
    Lasting x = new Lasting();
    for (int p = 0; p < 12; p++) {
      BENCH.due("told(" + p + ", 0) ahead of it", x.told(p, 0), -1);
      x.text();
      BENCH.due("told(" + p + ", 0)", x.told(p, 0), 0);
      for (int what = 0; what <= 2; what++) {
        BENCH.due("told(" + (p + 1) + ", " + what + ")", x.told(p + 1, what), -1);
      }
    }
    for (int far : Bench.FAR) {
      BENCH.due("told(" + far + ", 0)", x.told(far, 0), -1);
    }
  }

  private static void noSuchWhat() {
    BENCH.sentence("NONE: none such, of what");
    Lasting x = new Lasting();
    x.text();
    BENCH.due("told(0, 3)", x.told(0, 3), -1);
    for (int far : Bench.FAR) {
      BENCH.due("told(0, " + far + ")", x.told(0, far), -1);
    }
  }

  private static void ofAFault() {
    BENCH.sentence("a text with a FAULT is no PROGRAM");
    Lasting x = new Lasting();
    Bench.program(x, "mask{q=1;}!");
    for (int what = 0; what <= 2; what++) {
      BENCH.due("told(0, " + what + ")", x.told(0, what), -1);
    }
    Bench.program(x, "note 1;");
    BENCH.dueRow("the next one has nothing of it", x.told(0, 0) + " " + x.told(0, 1) + " " + x.told(0, 2), "1 1 0");
    Bench.program(x, "mask{q=1;}!");
    BENCH.dueRow("nor is the one ahead changed", x.told(0, 0) + " " + x.told(0, 1) + " " + x.told(0, 2), "1 1 0");
    x.start(0, 0);
    BENCH.dueRow("it runs as it was", Bench.times(x, 0, 2) + x.noted(0), "021");
  }

  private static void staysAsItWas() {
    BENCH.sentence("of a PROGRAM, whatever THREADS do");
    Lasting x = Bench.running("mask{q=1+2;}", "hard{open{}}");
    x.play(5, 200);
    x.clear();
    BENCH.dueRow("the first", x.told(0, 0) + " " + x.told(0, 1) + " " + x.told(0, 2), "2 2 1");
    BENCH.dueRow("the second", x.told(1, 0) + " " + x.told(1, 1) + " " + x.told(1, 2), "2 0 2");
  }
}
