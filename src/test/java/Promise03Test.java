/** Promise 3, end: which bytes stay, and what is refused. */
public final class Promise03Test {
  private static final Bench BENCH = new Bench("Promise 3");

  public static void main(String[] args) {
    firstOnesStay();
    thoseAheadStay();
    nOutside();
    notTwenty();
    againAndAgain();
    goneForGood();
    BENCH.close();
  }

  private static void firstOnesStay() {
    BENCH.sentence("Of the last 20 bytes only the first n stay: how many it has");
    for (int n = 0; n <= 20; n++) {
      for (int at = 0; at < 20; at++) {
        Lasting x = new Lasting();
        Bench.feed(x, " ".repeat(at) + "!" + " ".repeat(19 - at));
        BENCH.due("end(" + n + ")", x.end(n), n);
        BENCH.due("text()", x.text(), at < n ? -2 : 0);
        BENCH.due("place() of " + at + " behind end(" + n + ")", x.place(), at < n ? at : -1);
      }
    }
  }

  private static void thoseAheadStay() {
    BENCH.sentence("of the last 20 bytes, not of those ahead");
    for (int at = 0; at < 20; at++) {
      Lasting x = new Lasting();
      Bench.feed(x, " ".repeat(at) + "!" + " ".repeat(19 - at));
      Bench.feedAll(x, ' ');
      BENCH.due("end(0)", x.end(0), 20);
      x.text();
      BENCH.due("place()", x.place(), at);
    }
    Lasting y = new Lasting();
    for (int i = 0; i < 40; i++) {
      Bench.feedAll(y, ' ');
    }
    BENCH.due("end(20) of 800", y.end(20), 800);
    BENCH.due("end(19) of 800", y.end(19), 799);
    BENCH.due("end(0) of 799", y.end(0), 779);
  }

  private static void nOutside() {
    BENCH.sentence("NONE: n is not 0 .. 20");
    Lasting x = new Lasting();
    Bench.feed(x, "q=1;q=2;q=3;q=4;q=5;q=6;q=7;q=8;q=9;q=0;");
    for (int n : Bench.FAR) {
      BENCH.due("end(" + n + ")", x.end(n), -1);
    }
    BENCH.due("end(21)", x.end(21), -1);
    BENCH.due("end(40)", x.end(40), -1);
    BENCH.due("nothing went", x.end(20), 40);
    BENCH.due("text()", x.text(), 0);
    BENCH.due("all its statements", x.told(0, 0), 10);
  }

  private static void notTwenty() {
    BENCH.sentence("NONE: there are not 20");
    Lasting x = new Lasting();
    BENCH.due("end(0) of none", x.end(0), -1);
    BENCH.due("end(20) of none", x.end(20), -1);
    for (int n = 1; n < 20; n++) {
      Lasting y = new Lasting();
      Bench.feedAll(y, ' ');
      y.end(n);
      BENCH.due("end(0) of " + n, y.end(0), -1);
      BENCH.due("end(" + n + ") of " + n, y.end(n), -1);
      BENCH.due("end(20) of " + n, y.end(20), -1);
      BENCH.due("nothing went", Bench.feedAll(y, ' '), n + 20);
    }
    Lasting z = new Lasting();
    Bench.feedAll(z, ' ');
    BENCH.due("end(20) of 20", z.end(20), 20);
    BENCH.due("end(0) of 20", z.end(0), 0);
  }

  private static void againAndAgain() {
    BENCH.sentence("the last 20 are those that there are now");
    Lasting x = new Lasting();
    Bench.feed(x, "!".repeat(60));
    BENCH.due("end(5) of 60", x.end(5), 45);
    BENCH.due("end(19) of 45", x.end(19), 44);
    BENCH.due("end(0) of 44", x.end(0), 24);
    BENCH.due("end(0) of 24", x.end(0), 4);
    BENCH.due("end(0) of 4", x.end(0), -1);
    x = new Lasting();
    Bench.feed(x, "q=1;" + " ".repeat(16) + "!".repeat(20));
    BENCH.due("end(3)", x.end(3), 23);
    BENCH.due("end(17): 3 .. 19 stay", x.end(17), 20);
    BENCH.due("text()", x.text(), 0);
  }

  private static void goneForGood() {
    BENCH.sentence("what does not stay is not there when more comes");
    Lasting x = new Lasting();
    Bench.feed(x, "no" + "!".repeat(18));
    x.end(2);
    Bench.feed(x, "te 12;" + "!".repeat(14));
    x.end(4);
    Bench.feed(x, "34;");
    BENCH.due("text() of note 1 and 34;", x.text(), 0);
    x.start(0, 0);
    x.turn(0);
    BENCH.due("noted", x.noted(0), 134);
  }
}
