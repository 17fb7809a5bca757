/** Promise 20, the CLOCK: what makes it 1 more, and what does not. */
public final class Promise20Test {
  private static final Bench BENCH = new Bench("Promise 20");

  public static void main(String[] args) {
    noughtAtFirst();
    everyAnswer();
    refusedTurns();
    otherCalls();
    aheadOfAll();
    farOn();
    to512Calls();
    BENCH.close();
  }

  private static void noughtAtFirst() {
    BENCH.sentence("THE CLOCK is 0 at first");
    BENCH.due("clock", new Lasting().clock(), 0);
    BENCH.due("with THREADS begun", Bench.running("", "").clock(), 0);
  }

  private static void everyAnswer() {
    BENCH.sentence("each TURN of a THREAD that RUNS makes it 1 more, whatever its answer");
    Lasting x = Bench.running("try{throw 1;}catch q{}", "take a to q;", "throw 2;");
    int[] turns = {0, 0, 1, 1, 0, 2};
    String[] answers = {"0", "1", "4", "4", "2", "3"};
    for (int i = 0; i < turns.length; i++) {
      BENCH.dueRow("turn", Bench.turns(x, turns[i]), answers[i]);
      BENCH.due("clock", x.clock(), i + 1);
    }
  }

  private static void refusedTurns() {
    BENCH.sentence("TURNS of those that do not RUN are none");
    Lasting x = Bench.running("", "throw 2;");
    Bench.turns(x, 0, 1);
    Bench.turns(x, 0, 1, 2, 6, -1, Integer.MAX_VALUE, Integer.MIN_VALUE);
    BENCH.due("clock", x.clock(), 2);
    x.play(1, 2000);
    BENCH.due("nor in play", x.clock(), 2);
  }

  private static void otherCalls() {
    BENCH.sentence("no other call makes it more");
    Lasting x = Bench.running("mask{take a to q;}", "");
    x.turn(0);
    Bench.program(x, "q=1;");
    Bench.program(x, "!");
    x.start(2, 2);
    x.hurl(0, 1);
    x.fill(0, 1);
    x.play(1, 0);
    x.play(1, -1);
    x.stuck();
    Bench.all(x);
    BENCH.due("clock", x.clock(), 1);
    x.start(2, 1);
    BENCH.due("start", x.clock(), 1);
    x.clear();
    BENCH.due("clear", x.clock(), 0);
  }

  private static void aheadOfAll() {
    BENCH.sentence("ahead of all: NOTES of a TURN have the CLOCK behind that");
    Lasting x = Bench.running("note 1;");
    x.turn(0);
    BENCH.dueRow("note", x.note(0, 2) + " " + x.clock(), "1 1");
  }

  private static void farOn() {
    BENCH.sentence("as far as 500 plays of 2000 go");
    Lasting x = Bench.running("while(1){}", "take a to q;");
    long due = 0;
    for (int i = 0; i < 480; i++) {
      x.play(i, 2000);
      long s = i;
      for (int k = 0; k < 2000; k++) {
        s = 6364136223846793005L * s + 1442695040888963407L;
        due += s >>> 61 < 2 ? 1 : 0;
      }
    }
    BENCH.due("clock", x.clock(), due);
  }

  private static void to512Calls() {
    BENCH.sentence("An object is used for at most 512 calls: the last of them, too");
    MaskedThrows x = new MaskedThrows();
    x.feed(0x7768696C, 0x65283129, 0x7B7D2020, 0x20202020, 0x20202020);
    BENCH.due("text() of while(1){}", x.text(), 0);
    x.start(0, 0);
    for (int call = 4; call < 512; call++) {
      x.turn(0);
    }
    BENCH.due("clock, the 512th", x.clock(), 508);
  }
}
