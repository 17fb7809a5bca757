import java.math.BigInteger;

/** Promises 7 to 9, 11 to 14, 16, 20 and STEPS without throws: start, turn, play, boxes, locals. */
public final class ThreadsTest {
  private static final Bench BENCH = new Bench("ThreadsTest");
  private static final int MIN = Integer.MIN_VALUE;
  private static final int MAX = Integer.MAX_VALUE;

  public static void main(String[] args) {
    starts();
    wrongThreads();
    exps();
    expsRunOver();
    branches();
    loops();
    bodiesAtTheirEnds();
    strengths();
    takes();
    puts();
    boxes();
    locals();
    playsAsTurns();
    playEdges();
    BENCH.close();
  }

  private static void starts() {
    Lasting x = Bench.running("q=1;");
    BENCH.due("start of one that runs", x.start(0, 0), -1);
    BENCH.dueRow("begun", Bench.told(x, 0), "1 0 0 0 0 0 0");
    BENCH.dueRow("turns", Bench.times(x, 0, 3), "02-");
    BENCH.dueRow("done", Bench.told(x, 0), "2 0 2 0 0 0 0");
    BENCH.due("clock", x.clock(), 2);
    BENCH.due("q stays", x.local(0, 0), 1);
    BENCH.dueRow("notes", Bench.notes(x), "4/0/2=0");
    BENCH.due("start again", x.start(0, 0), 1);
    BENCH.dueRow("begun again", Bench.told(x, 0), "1 0 0 0 0 0 0");
    BENCH.due("q at first again", x.local(0, 0), 0);
    BENCH.due("clock goes on", x.clock(), 2);

    Lasting y = Bench.running("throw 5;");
    BENCH.dueRow("dies", Bench.times(y, 0, 2), "3-");
    BENCH.due("died", y.died(0), 5);
    BENCH.due("start of a dead one", y.start(0, 0), 1);
    BENCH.due("died at first again", y.died(0), 0);

    Lasting z = Bench.running("", "");
    BENCH.due("start of the last thread", z.start(5, 1), 1);
    BENCH.due("two threads do one program", z.start(4, 1), 1);
    BENCH.dueRow("empty programs", Bench.turns(z, 0, 5, 4, 5), "222-");
    BENCH.due("clock", z.clock(), 3);
  }

  private static void wrongThreads() {
    Lasting x = Bench.running("q=1;");
    for (int wrong : new int[] {-1, 6, 7, MIN, MAX}) {
      BENCH.due("start", x.start(wrong, 0), -1);
      BENCH.due("turn", x.turn(wrong), -1);
      BENCH.due("hurl", x.hurl(wrong, 1), -1);
      BENCH.due("thread", x.thread(wrong, 0), -1);
      BENCH.due("died", x.died(wrong), 0);
      BENCH.due("local", x.local(wrong, 0), 0);
      BENCH.due("row", x.row(wrong, 0, 0), -1);
      BENCH.due("value", x.value(wrong, 0), 0);
    }
    for (int wrong : new int[] {-1, 1, 12, MIN, MAX}) {
      BENCH.due("start of no program", x.start(1, wrong), -1);
    }
    for (int wrong : new int[] {-1, 7, MIN, MAX}) {
      BENCH.due("thread's what", x.thread(0, wrong), -1);
      BENCH.due("what of one never begun", x.thread(1, wrong), -1);
    }
    BENCH.due("turn of one never begun", x.turn(1), -1);
    BENCH.due("hurl to one never begun", x.hurl(1, 1), -1);
    BENCH.due("the clock stood", x.clock(), 0);
  }

  private static void noted(String exp, long want) {
    Lasting x = Bench.running("x=3;y=-7;note " + exp + ";");
    BENCH.dueRow("turns of note " + exp, Bench.times(x, 0, 4), "0002");
    BENCH.due("note " + exp, x.noted(0), want);
  }

  private static void exps() {
    noted("0", 0);
    noted("2+3*4", 14);
    noted("2*3+4", 10);
    noted("(2+3)*4", 20);
    noted("2-3-4", -5);
    noted("2-(3-4)", 3);
    noted("20-3*4-1", 7);
    noted("2*3*4", 24);
    noted("-2*3", -6);
    noted("2*-3", -6);
    noted("2--3", 5);
    noted("2---3", -1);
    noted("--5", 5);
    noted("-(2+3)", -5);
    noted("-x*y", 21);
    noted("x-y", 10);
    noted("z", 0);
    noted("1<2", 1);
    noted("2<2", 0);
    noted("3<2", 0);
    noted("-1<0", 1);
    noted("2=2", 1);
    noted("2=3", 0);
    noted("2#2", 0);
    noted("2#3", 1);
    noted("1+1=2", 1);
    noted("2=1+1", 1);
    noted("2*3<3*2+1", 1);
    noted("(1<2)+(2<3)", 2);
    noted("1-(2=2)-(2#2)", 0);
    noted("x=3", 1);
    noted("y#-7", 0);
  }

  private static void expsRunOver() {
    BigInteger big = BigInteger.valueOf(999999999).pow(3);
    noted("999999999*999999999*999999999", big.longValue());
    noted("999999999*999999999*999999999*999999999", BigInteger.valueOf(999999999).pow(4).longValue());
    noted("-999999999*999999999*999999999+1", big.negate().add(BigInteger.ONE).longValue());
    // 2 to the 63rd, less than nought by running over.
    String half = "256*256*256*128";
    noted("(" + half + "*2)*(" + half + "*2)*1", Long.MIN_VALUE * 2);
    noted(half + "*" + half + "*2", Long.MIN_VALUE);
    noted("-(" + half + "*" + half + "*2)", Long.MIN_VALUE);
    noted(half + "*" + half + "*2-1", Long.MAX_VALUE);
    noted(half + "*" + half + "*2<0", 1);
  }

  private static void branches() {
    Lasting x = Bench.running("if(q){note 1;}else{note 2;}note 3;");
    BENCH.due("if", x.turn(0), 0);
    BENCH.dueRow("in else", Bench.told(x, 0), "1 0 1 0 1 0 0");
    BENCH.dueRow("turns", Bench.times(x, 0, 3), "002");
    BENCH.dueRow("notes", Bench.notes(x), "0/0/2=2 0/0/3=3 4/0/4=0");
    x = Bench.running("if(-1){note 1;}else{note 2;}note 3;");
    BENCH.dueRow("turns", Bench.times(x, 0, 4), "0002");
    BENCH.dueRow("notes", Bench.notes(x), "0/0/2=1 0/0/3=3 4/0/4=0");
    BENCH.dueRow("if without else", Bench.times(Bench.running("if(0){q=1;}"), 0, 2), "02");
    BENCH.dueRow("if with an empty body", Bench.times(Bench.running("if(1){}"), 0, 2), "02");
    x = Bench.running("if(0){q=1;}else{}r=1;");
    BENCH.due("empty else", x.turn(0), 0);
    BENCH.due("it is in it", x.thread(0, 4), 1);
    BENCH.dueRow("out of it", Bench.times(x, 0, 2), "02");
    x = Bench.running("if(0){q=1;}r=1;");
    x.turn(0);
    BENCH.due("it is in none", x.thread(0, 4), 0);
  }

  private static void loops() {
    Lasting x = Bench.running("while(q<2){q=q+1;}note q;");
    BENCH.dueRow("turns", Bench.times(x, 0, 7), "0000002");
    BENCH.dueRow("notes", Bench.notes(x), "0/0/6=2 4/0/7=0");
    x = Bench.running("while(1){}");
    BENCH.dueRow("for ever", Bench.times(x, 0, 20), "00000000000000000000");
    BENCH.dueRow("in one body", Bench.told(x, 0), "1 0 20 0 1 0 0");
    x = Bench.running("while(q<2){if(q){r=r+10;}else{r=r+1;}q=q+1;}");
    BENCH.dueRow("turns", Bench.times(x, 0, 10), "0000000002");
    BENCH.due("r", x.local(0, 1), 11);
    BENCH.dueRow("none", Bench.times(Bench.running("while(0){q=1;}"), 0, 2), "02");
  }

  private static void bodiesAtTheirEnds() {
    Lasting x = Bench.running("mask{hard{q=1;}}q=2;");
    x.turn(0);
    BENCH.dueRow("in mask", Bench.told(x, 0), "1 1 1 0 1 0 0");
    x.turn(0);
    BENCH.dueRow("in hard", Bench.told(x, 0), "1 2 2 0 2 0 0");
    x.turn(0);
    BENCH.dueRow("at the ends", Bench.told(x, 0), "1 2 3 0 2 0 0");
    x.turn(0);
    BENCH.dueRow("out of both", Bench.told(x, 0), "1 0 4 0 0 0 0");
    BENCH.due("done", x.turn(0), 2);
    // A TURN that WAITS goes out of them too.
    Lasting y = Bench.running("mask{q=1;}take a to q;");
    Bench.times(y, 0, 2);
    BENCH.dueRow("at the end", Bench.told(y, 0), "1 1 2 0 1 0 0");
    BENCH.due("waits", y.turn(0), 4);
    BENCH.dueRow("out", Bench.told(y, 0), "1 0 2 0 0 0 0");
  }

  private static void strength(String text, int turns, int want) {
    Lasting x = Bench.running(text);
    Bench.times(x, 0, turns);
    BENCH.due("strength of " + text, x.thread(0, 1), want);
  }

  private static void strengths() {
    strength("mask{}", 1, 1);
    strength("hard{}", 1, 2);
    strength("open{}", 1, 0);
    strength("mask{mask{}}", 2, 1);
    strength("mask{hard{}}", 2, 2);
    strength("mask{open{}}", 2, 0);
    strength("hard{mask{}}", 2, 2);
    strength("hard{hard{}}", 2, 2);
    strength("hard{open{}}", 2, 0);
    strength("hard{open{mask{}}}", 3, 1);
    strength("hard{open{}q=1;}", 3, 2);
    strength("mask{open{}q=1;}", 3, 1);
    strength("mask{hard{}q=1;}", 3, 1);
    strength("mask{if(1){}}", 2, 1);
    strength("hard{while(1){}}", 2, 2);
    strength("hard{try{}catch q{}}", 2, 2);
    strength("mask{within 9{}}", 2, 1);
    strength("try{}catch q{}", 1, 0);
    strength("within 9{}", 1, 0);
  }

  private static void takes() {
    Lasting x = Bench.running("take c to x;note x;");
    BENCH.dueRow("waits", Bench.times(x, 0, 3), "444");
    BENCH.dueRow("no steps", Bench.told(x, 0), "1 0 0 0 0 0 0");
    BENCH.due("the clock goes", x.clock(), 3);
    BENCH.due("fill", x.fill(2, -5), 1);
    BENCH.due("takes", x.turn(0), 0);
    BENCH.due("empty then", x.full(2), 0);
    BENCH.due("x", x.local(0, 7), -5);
    BENCH.dueRow("goes on", Bench.times(x, 0, 2), "02");
    // Of two that wait one alone has it.
    Lasting y = Bench.running("take a to q;", "take a to q;");
    y.fill(0, 4);
    BENCH.dueRow("one of two", Bench.turns(y, 1, 0, 1), "042");
    BENCH.due("its q", y.local(1, 0), 4);
  }

  private static void puts() {
    Lasting x = Bench.running("q=2;put q*3 in h;put q in h;", "take h to z;take h to y;");
    BENCH.dueRow("turns", Bench.turns(x, 1, 0, 0, 0, 1, 1, 0, 1, 0, 1), "4004040022");
    BENCH.due("z", x.local(1, 9), 6);
    BENCH.due("y", x.local(1, 8), 2);
    BENCH.due("h", x.full(7), 0);
    Lasting y = Bench.running("put 9 in a;");
    y.turn(0);
    BENCH.due("full", y.full(0), 1);
    BENCH.due("box", y.box(0), 9);
    BENCH.due("fill of a full one", y.fill(0, 1), -1);
    BENCH.due("box as it was", y.box(0), 9);
  }

  private static void boxes() {
    Lasting x = new Lasting();
    for (int i = 0; i < 8; i++) {
      BENCH.due("box of an empty one", x.box(i), 0);
      BENCH.due("fill", x.fill(i, Long.MIN_VALUE + i), 1);
      BENCH.due("full", x.full(i), 1);
      BENCH.due("box", x.box(i), Long.MIN_VALUE + i);
      BENCH.due("fill again", x.fill(i, 5), -1);
    }
    for (int wrong : new int[] {-1, 8, MIN, MAX}) {
      BENCH.due("fill of none", x.fill(wrong, 1), -1);
      BENCH.due("full of none", x.full(wrong), -1);
      BENCH.due("box of none", x.box(wrong), 0);
    }
    Lasting y = Bench.running("take a to q;");
    y.fill(0, 3);
    y.turn(0);
    BENCH.due("box of an emptied one", y.box(0), 0);
    BENCH.due("fill of an emptied one", y.fill(0, 6), 1);
  }

  private static void locals() {
    Lasting x = Bench.running("q=1;r=2;s=3;t=4;u=5;v=6;w=7;x=8;y=9;z=10;", "q=77;");
    BENCH.dueRow("turns", Bench.turns(x, 0, 0, 0, 0, 0, 0, 0, 0, 0, 0, 1, 0), "000000000002");
    for (int i = 0; i < 10; i++) {
      BENCH.due("local " + i, x.local(0, i), i + 1);
    }
    BENCH.due("another's q", x.local(1, 0), 77);
    BENCH.due("another's r", x.local(1, 1), 0);
    for (int wrong : new int[] {-1, 10, MIN, MAX}) {
      BENCH.due("no local", x.local(0, wrong), 0);
    }
  }

  private static final String[] TURNING = {
    "while(1){take a to q;note q;}",
    "while(1){put r in a;r=r+1;}",
    "while(q<20){q=q+1;}",
    "while(1){mask{q=q+1;}}",
    "while(1){q=q+1;}",
    "take b to q;",
  };

  private static void playsAsTurns() {
    for (long seed : new long[] {0, 1, -1, 12345678901234L, Long.MIN_VALUE, Long.MAX_VALUE}) {
      Lasting x = Bench.running(TURNING);
      Lasting y = Bench.running(TURNING);
      int played = x.play(seed, 300);
      BigInteger all = BigInteger.ONE.shiftLeft(64);
      BigInteger s = BigInteger.valueOf(seed).mod(all);
      int steps = 0;
      int turns = 0;
      for (int i = 0; i < 300; i++) {
        s = s.multiply(new BigInteger("6364136223846793005")).add(new BigInteger("1442695040888963407")).mod(all);
        int answer = y.turn(s.shiftRight(61).intValue());
        turns += answer == -1 ? 0 : 1;
        steps += answer >= 0 && answer <= 3 ? 1 : 0;
      }
      BENCH.due("play(" + seed + ", 300)", played, steps);
      BENCH.due("clock", x.clock(), turns);
      for (int i = 0; i < 6; i++) {
        BENCH.dueRow("thread " + i, Bench.told(x, i), Bench.told(y, i));
        BENCH.due("local", x.local(i, 0), y.local(i, 0));
      }
      BENCH.dueRow("notes", Bench.notes(x), Bench.notes(y));
    }
  }

  private static void playEdges() {
    Lasting x = Bench.running("while(1){}", "while(1){}", "while(1){}", "while(1){}", "while(1){}", "while(1){}");
    BENCH.due("play 0", x.play(5, 0), 0);
    BENCH.due("play -1", x.play(5, -1), -1);
    BENCH.due("play 2001", x.play(5, 2001), -1);
    BENCH.due("play MIN", x.play(5, MIN), -1);
    BENCH.due("play MAX", x.play(5, MAX), -1);
    BENCH.due("none of them was played", x.clock(), 0);
    int steps = x.play(5, 2000);
    BENCH.due("play 2000", steps, x.clock());
    BENCH.due("three in four", steps > 1400 && steps < 1600 ? 1 : 0, 1);
    BENCH.due("play of none", new Lasting().play(5, 2000), 0);
  }
}
