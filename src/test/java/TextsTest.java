import java.util.Collections;

/** Promises 1 to 6: the tape, texts and where their faults lie. */
public final class TextsTest {
  private static final Bench BENCH = new Bench("TextsTest");

  public static void main(String[] args) {
    newObject();
    tape();
    tapeOrder();
    programs();
    fine();
    tokensThatCannotStand();
    words();
    numbers();
    statementsLimit();
    bodiesLimit();
    unariesLimit();
    withinOneAnotherLimit();
    BENCH.close();
  }

  private static String times(String s, int n) {
    return String.join("", Collections.nCopies(n, s));
  }

  /** The text has a FAULT there; NONE: it has none. */
  private static void fault(String text, int place) {
    MaskedThrows x = new MaskedThrows();
    int answer = Bench.program(x, text);
    BENCH.due("text() of " + text, answer, place == MaskedThrows.NONE ? 0 : -2);
    BENCH.due("place() of " + text, x.place(), place);
    BENCH.due("told(0, 0) of " + text, x.told(0, 0) == MaskedThrows.NONE ? 1 : 0, place == MaskedThrows.NONE ? 0 : 1);
  }

  /** The text has a FAULT where '@' stands in it (that sign is taken out). */
  private static void faultAt(String marked) {
    int at = marked.indexOf('@');
    fault(marked.substring(0, at) + marked.substring(at + 1), at);
  }

  private static void told(String text, int statements, int unaries, int bodies) {
    MaskedThrows x = new MaskedThrows();
    BENCH.due("text() of " + text, Bench.program(x, text), 0);
    BENCH.due("told(0, 0) of " + text, x.told(0, 0), statements);
    BENCH.due("told(0, 1) of " + text, x.told(0, 1), unaries);
    BENCH.due("told(0, 2) of " + text, x.told(0, 2), bodies);
  }

  private static void newObject() {
    MaskedThrows x = new MaskedThrows();
    BENCH.due("new place()", x.place(), -1);
    BENCH.due("new clock()", x.clock(), 0);
    BENCH.due("new notes()", x.notes(), 0);
    BENCH.due("new stuck()", x.stuck(), 1);
    BENCH.due("new end(0)", x.end(0), -1);
    BENCH.due("new told(0, 0)", x.told(0, 0), -1);
    BENCH.due("new start(0, 0)", x.start(0, 0), -1);
    for (int i = 0; i < 8; i++) {
      BENCH.due("new full", x.full(i), 0);
    }
    for (int i = 0; i < 6; i++) {
      BENCH.dueRow("new thread", Bench.told(x, i), "0 0 0 0 0 0 0");
    }
    BENCH.due("new text()", x.text(), 0);
  }

  private static void tape() {
    MaskedThrows x = new MaskedThrows();
    for (int i = 1; i <= 40; i++) {
      BENCH.due("feed", x.feed(0x20202020, 0x20202020, 0x20202020, 0x20202020, 0x20202020), 20 * i);
    }
    BENCH.due("feed beyond 800", x.feed(0, 0, 0, 0, 0), -1);
    BENCH.due("end(-1)", x.end(-1), -1);
    BENCH.due("end(21)", x.end(21), -1);
    BENCH.due("end(20)", x.end(20), 800);
    BENCH.due("end(19)", x.end(19), 799);
    BENCH.due("feed at 799", x.feed(0, 0, 0, 0, 0), -1);
    BENCH.due("end(1)", x.end(1), 780);
    BENCH.due("feed at 780", x.feed(0x20202020, 0x20202020, 0x20202020, 0x20202020, 0x20202020), 800);
    BENCH.due("text of 800 blanks", x.text(), 0);
    BENCH.due("the tape is empty then", x.end(20), -1);
    BENCH.due("feed again", x.feed(0, 0, 0, 0, 0), 20);
    BENCH.due("end(0)", x.end(0), 0);
    BENCH.due("end of nothing", x.end(0), -1);
    x.feed(0, 0, 0, 0, 0);
    BENCH.due("end(19) of 20", x.end(19), 19);
    BENCH.due("end of 19", x.end(5), -1);
    BENCH.due("end(MIN)", x.end(Integer.MIN_VALUE), -1);
    BENCH.due("end(MAX)", x.end(Integer.MAX_VALUE), -1);
  }

  private static void tapeOrder() {
    MaskedThrows x = new MaskedThrows();
    // "q=12345678;r=5;note " and then "q;"
    x.feed(0x713D3132, 0x33343536, 0x37383B72, 0x3D353B6E, 0x6F746520);
    x.feed(0x713B2020, 0x20202020, 0x20202020, 0x20202020, 0x20202020);
    BENCH.due("end(2)", x.end(2), 22);
    BENCH.due("text of ordered bytes", x.text(), 0);
    x.start(0, 0);
    Bench.times(x, 0, 3);
    BENCH.due("q", x.local(0, 0), 12345678);
    BENCH.due("r", x.local(0, 1), 5);
    BENCH.due("noted q", x.noted(0), 12345678);
    // Bytes above 127 are bytes of their own.
    MaskedThrows y = new MaskedThrows();
    y.feed(0x713D31BB, 0, 0, 0, 0);
    BENCH.due("byte 187", y.text(), -2);
    BENCH.due("place of byte 187", y.place(), 3);
  }

  private static void programs() {
    MaskedThrows x = new MaskedThrows();
    for (int i = 0; i < 12; i++) {
      BENCH.due("text() of a fault between", Bench.program(x, "q=1;x"), -2);
      BENCH.due("place() of it", x.place(), 5);
      BENCH.due("text " + i, Bench.program(x, times("q=1;", i)), i);
      BENCH.due("place() without one", x.place(), -1);
    }
    for (int i = 0; i < 12; i++) {
      BENCH.due("told(" + i + ", 0)", x.told(i, 0), i);
      BENCH.due("told(" + i + ", 1)", x.told(i, 1), i);
      BENCH.due("told(" + i + ", 2)", x.told(i, 2), 0);
    }
    BENCH.due("told(12, 0)", x.told(12, 0), -1);
    BENCH.due("told(-1, 0)", x.told(-1, 0), -1);
    BENCH.due("told(0, -1)", x.told(0, -1), -1);
    BENCH.due("told(0, 3)", x.told(0, 3), -1);
    BENCH.due("told(MIN, 0)", x.told(Integer.MIN_VALUE, 0), -1);
    BENCH.due("told(MAX, 0)", x.told(Integer.MAX_VALUE, 0), -1);
    Bench.feed(x, "x");
    BENCH.due("the 13th text", x.text(), -1);
    BENCH.due("the 13th has no place", x.place(), -1);
    BENCH.due("the 13th stays on the tape", x.feed(0, 0, 0, 0, 0), 21);

    MaskedThrows y = new MaskedThrows();
    for (int i = 0; i < 11; i++) {
      y.text();
    }
    BENCH.due("a fault ahead of the 12th", Bench.program(y, "  !"), -2);
    BENCH.due("its tape is empty", y.end(0), -1);
    BENCH.due("the 12th", y.text(), 11);
    BENCH.due("the 13th, not read", y.text(), -1);
    BENCH.due("place of the latest that was read", y.place(), -1);
  }

  private static void fine() {
    told("", 0, 0, 0);
    told(" \n ", 0, 0, 0);
    told("q=1;", 1, 1, 0);
    told("q = 1 ;\nz=q+1*2-3;", 2, 5, 0);
    told("note q;", 1, 1, 0);
    told("note-(q);", 1, 3, 0);
    told("if(q){}", 1, 1, 1);
    told("if(q){}else{q=1;}", 2, 2, 1);
    told("while(q<9){q=q+1;}", 2, 4, 1);
    told("take a to q;take h to z;", 2, 0, 0);
    told("put 1 in a;put 2 in h;", 2, 2, 0);
    told("throw 1;send 2 to 0;send 3 to 5;send 4 to 000000005;", 4, 4, 0);
    told("mask{}hard{}open{}", 3, 0, 1);
    told("mask{hard{}open{mask{}}}", 4, 0, 3);
    told("try{}catch q{}", 1, 0, 1);
    told("try{mask{}}catch z{note z;}", 3, 1, 2);
    told("first{}use{}last{}", 1, 0, 1);
    told("first{q=1;}use{mask{q=2;}}last{q=3;}", 5, 3, 2);
    told("within 0{}", 1, 0, 1);
    told("within5{}else{}", 1, 0, 1);
    told("within 999999999{within 1{}}else{within 2{within 3{}}}", 4, 0, 3);
    told("q=1<2;q=1=2;q=1#2;q=(1=2)=(3#4);", 4, 12, 0);
    told("q=--1;q=((1));", 2, 6, 0);
    told("q=1;if(q){q=2;}else{}while(0){}", 4, 4, 1);
  }

  private static void tokensThatCannotStand() {
    faultAt("@;");
    faultAt("@{}");
    faultAt("@1=2;");
    faultAt("@a=1;");
    faultAt("@i=1;");
    faultAt("@p=1;");
    faultAt("q@ ;".replace(" ", ""));
    faultAt("q @1;");
    faultAt("q=@;");
    faultAt("q=@a;");
    faultAt("q=@p;");
    faultAt("q=1@r;");
    faultAt("q=1 @2;");
    faultAt("q=1<2@<3;");
    faultAt("q=1=2@=3;");
    faultAt("q=1+@+2;");
    faultAt("q=1-@*2;");
    faultAt("q=(1@;");
    faultAt("q=(1)@);");
    faultAt("q=()".replace("()", "(@)"));
    faultAt("q=1;@}");
    faultAt("q=1;  @else{}");
    faultAt("@in;");
    faultAt("@to;");
    faultAt("@use{}");
    faultAt("@last{}");
    faultAt("@catch q{}");
    faultAt("note @;");
    faultAt("note q@}");
    faultAt("if @q{}");
    faultAt("if(@){}");
    faultAt("if(q@{}");
    faultAt("if(q)@q=1;");
    faultAt("if(q){}else @q=1;");
    faultAt("if(q){}else{}@else{}");
    faultAt("while @{}");
    faultAt("while(1)@;");
    faultAt("while(1){}@else{}");
    faultAt("take @q to q;");
    faultAt("take @i to q;");
    faultAt("take a @in q;");
    faultAt("take a to @a;");
    faultAt("take a to q@");
    faultAt("put @in a;");
    faultAt("put 1 @to a;");
    faultAt("put 1 in @q;");
    faultAt("put 1 in @i;");
    faultAt("put @a in a;");
    faultAt("throw @;");
    faultAt("send 1 @in 2;");
    faultAt("send 1 to @6;");
    faultAt("send 1 to @999999999;");
    faultAt("send 1 to @q;");
    faultAt("send 1 to @-1;");
    faultAt("send 1 to 1@1;".replace("1@1;", "@11;"));
    faultAt("mask @;");
    faultAt("hard @(");
    faultAt("open{@]");
    faultAt("try{}@q");
    faultAt("try{}catch @a{}");
    faultAt("try{}catch @{}");
    faultAt("try{}catch q@;");
    faultAt("first{}@last{}");
    faultAt("first{}use{}@use{}");
    faultAt("first{}use{}last@;");
    faultAt("within @{}");
    faultAt("within @q{}");
    faultAt("within @-1{}");
    faultAt("within 1@;");
    faultAt("within 1{}else@;");
    // At the text's length, with the blanks at its end.
    faultAt("q@");
    faultAt("q=@");
    faultAt("q=1@");
    faultAt("q=1  \n @");
    faultAt("q=-@");
    faultAt("q=(@");
    faultAt("mask{@");
    faultAt("mask{ q=1; @");
    faultAt("try{}@");
    faultAt("first{}use{}@");
    faultAt("within@");
    faultAt("send 1 to@");
    // Other bytes.
    faultAt("q=1;@\t");
    faultAt("q=1;@\r\n");
    faultAt("q=1;@\0");
    faultAt("q=1;@\u00ff");
    faultAt("q=1@/2;");
    faultAt("q=1@>2;");
    faultAt("q=1@!2;");
    faultAt("@Q=1;");
    faultAt("@_");
  }

  private static void words() {
    faultAt("@noteq;");
    faultAt("@qq=1;");
    faultAt("@no te q;");
    faultAt("@notes q;");
    faultAt("@not q;");
    faultAt("@withins 1{}");
    faultAt("@withinq 1{}");
    faultAt("@withi 1{}");
    faultAt("@ab=1;");
    faultAt("@noTe q;");
    faultAt("q=@qr;");
    faultAt("q=@to;");
    faultAt("take @aa to q;");
    faultAt("take @ato q;");
    faultAt("take a @toq;");
    fault("take a to q;put q in a;send q to 1;", -1);
    fault("send(q)to 1;put(q)in a;send 1to 1;put 1in a;within 1{}else{}throw(1);", -1);
    fault("take\na\nto\nq\n;", -1);
  }

  private static void numbers() {
    fault("q=999999999;", -1);
    fault("q=000000000;", -1);
    faultAt("q=@1234567890;");
    faultAt("q=@0000000000;");
    faultAt("within @0000000001{}");
    faultAt("send 1 to @0000000001;");
    faultAt("q=1+@12345678901234567890123;");
    faultAt("q=1@ 0;".replace(" ", "") .replace("1@0", "@1000000000"));
    MaskedThrows x = Bench.running("q=999999999;r=000000017;");
    Bench.times(x, 0, 2);
    BENCH.due("nine digits", x.local(0, 0), 999999999);
    BENCH.due("noughts ahead", x.local(0, 1), 17);
  }

  private static void statementsLimit() {
    told(times("q=1;", 40), 40, 40, 0);
    faultAt(times("q=1;", 40) + "@q=1;");
    faultAt(times("q=1;", 40) + " @note 1;");
    faultAt(times("mask{", 8) + times("}", 8) + times("take a to q;", 32) + " @mask{}");
    fault(times("q=1;", 38) + "mask{q=1;}", -1);
    faultAt(times("q=1;", 39) + "mask{@q=1;}");
    faultAt(times("q=1;", 40) + "@}");
    fault(times("q=1;", 39) + "if(1){}else{}", -1);
    faultAt(times("q=1;", 39) + "if(1){}else{@mask{}}");
  }

  private static void bodiesLimit() {
    told(times("mask{", 8) + times("}", 8), 8, 0, 8);
    faultAt(times("mask{", 8) + "mask@{" + times("}", 9));
    faultAt(times("open{", 8) + "try @{}catch q{}" + times("}", 8));
    faultAt(times("hard{", 8) + "if(1)@{}");
    faultAt(times("mask{", 8) + "mask @;");
    faultAt(times("mask{", 8) + "mask @");
    told(times("if(1){}else{", 8) + times("}", 8), 8, 8, 8);
    faultAt(times("if(1){}else{", 8) + "if(1)@{}else{");
    told("mask{}" + times("first{}use{}last{", 8) + times("}", 8) + "mask{}", 10, 0, 8);
  }

  private static void unariesLimit() {
    told("q=1" + times("+1", 59) + ";", 1, 60, 0);
    faultAt("q=1" + times("+1", 59) + "+@1;");
    faultAt("q=1" + times("*1", 59) + "*@1;");
    faultAt("q=1" + times("+1", 58) + "*1-@-1;");
    faultAt("q=1" + times("+1", 58) + "+-@1;");
    faultAt("q=1" + times("+1", 58) + "+(@1);");
    fault("q=1" + times("+1", 57) + "+-1;", -1);
    fault("q=1" + times("+1", 57) + "+(1);", -1);
    faultAt("q=1" + times("+1", 59) + ";r=@1;");
    faultAt("q=1" + times("+1", 59) + ";if(@(1)){}");
    faultAt("q=1" + times("+1", 59) + ";note @;");
    fault("q=1" + times("+1", 59) + ";mask{}take a to q;within 9{}", -1);
  }

  private static void withinOneAnotherLimit() {
    told("q=" + times("-", 8) + "1;", 1, 9, 0);
    faultAt("q=" + times("-", 8) + "@-1;");
    faultAt("q=" + times("-", 8) + "@(1);");
    told("q=" + times("(", 8) + "1" + times(")", 8) + ";", 1, 9, 0);
    faultAt("q=" + times("(", 8) + "@(1" + times(")", 9) + ";");
    faultAt("q=" + times("(-", 4) + "@-1;");
    told("q=" + times("(-", 4) + "1" + times(")", 4) + "+" + times("-(", 4) + "1" + times(")", 4) + ";", 1, 18, 0);
    fault("if(" + times("(", 8) + "1" + times(")", 8) + "){}", -1);
    faultAt("if(" + times("(", 8) + "@(1" + times(")", 9) + "){}");
    faultAt("while(" + times("-", 8) + "@-");
    fault("q=(1)*(1)*(1)*(1)*(1)*(1)*(1)*(1)*(1)*(1);q=-1-(-1)-(-1)-(-1)-(-1)-(-1)-(-1)-(-1)-(-1)-(-1);", -1);
  }
}
