import java.util.Collections;

/** Promises 1 to 6: the tape, texts and where their faults lie. */
public final class TextsTest {
  private static final Bench BENCH = new Bench("TextsTest");

  public static void main(String[] args) {
    newObject();
    tape();
    tapeOrder();
    programs();
    fine();
    tokensThatCannotStand();
    words();
    numbers();
    statementsLimit();
    bodiesLimit();
    unariesLimit();
    withinOneAnotherLimit();
    BENCH.close();
  }

  private static String times(String s, int n) {
    return String.join("", Collections.nCopies(n, s));
  }

  private static void newObject() {
    Lasting x = new Lasting();
    BENCH.due("new place()", x.place(), -1);
    BENCH.due("new clock()", x.clock(), 0);
    BENCH.due("new notes()", x.notes(), 0);
    BENCH.due("new stuck()", x.stuck(), 1);
    BENCH.due("new end(0)", x.end(0), -1);
    BENCH.due("new told(0, 0)", x.told(0, 0), -1);
    BENCH.due("new start(0, 0)", x.start(0, 0), -1);
    for (int i = 0; i < 8; i++) {
      BENCH.due("new full", x.full(i), 0);
    }
    for (int i = 0; i < 6; i++) {
      BENCH.dueRow("new thread", Bench.told(x, i), "0 0 0 0 0 0 0");
    }
    BENCH.due("new text()", x.text(), 0);
  }

  private static void tape() {
    Lasting x = new Lasting();
    for (int i = 1; i <= 40; i++) {
      BENCH.due("feed", x.feed(0x20202020, 0x20202020, 0x20202020, 0x20202020, 0x20202020), 20 * i);
    }
    BENCH.due("feed beyond 800", x.feed(0, 0, 0, 0, 0), -1);
    BENCH.due("end(-1)", x.end(-1), -1);
    BENCH.due("end(21)", x.end(21), -1);
    BENCH.due("end(20)", x.end(20), 800);
    BENCH.due("end(19)", x.end(19), 799);
    BENCH.due("feed at 799", x.feed(0, 0, 0, 0, 0), -1);
    BENCH.due("end(1)", x.end(1), 780);
    BENCH.due("feed at 780", x.feed(0x20202020, 0x20202020, 0x20202020, 0x20202020, 0x20202020), 800);
    BENCH.due("text of 800 blanks", x.text(), 0);
    BENCH.due("the tape is empty then", x.end(20), -1);
    BENCH.due("feed again", x.feed(0, 0, 0, 0, 0), 20);
    BENCH.due("end(0)", x.end(0), 0);
    BENCH.due("end of nothing", x.end(0), -1);
    x.feed(0, 0, 0, 0, 0);
    BENCH.due("end(19) of 20", x.end(19), 19);
    BENCH.due("end of 19", x.end(5), -1);
    BENCH.due("end(MIN)", x.end(Integer.MIN_VALUE), -1);
    BENCH.due("end(MAX)", x.end(Integer.MAX_VALUE), -1);
  }

  private static void tapeOrder() {
    Lasting x = new Lasting();
    // "q=12345678;r=5;note " and then "q;"
    x.feed(0x713D3132, 0x33343536, 0x37383B72, 0x3D353B6E, 0x6F746520);
    x.feed(0x713B2020, 0x20202020, 0x20202020, 0x20202020, 0x20202020);
    BENCH.due("end(2)", x.end(2), 22);
    BENCH.due("text of ordered bytes", x.text(), 0);
    x.start(0, 0);
    Bench.times(x, 0, 3);
    BENCH.due("q", x.local(0, 0), 12345678);
    BENCH.due("r", x.local(0, 1), 5);
    BENCH.due("noted q", x.noted(0), 12345678);
    // Bytes above 127 are bytes of their own.
    Lasting y = new Lasting();
    y.feed(0x713D31BB, 0, 0, 0, 0);
    BENCH.due("byte 187", y.text(), -2);
    BENCH.due("place of byte 187", y.place(), 3);
  }

  private static void programs() {
    Lasting x = new Lasting();
    for (int i = 0; i < 12; i++) {
      BENCH.due("text() of a fault between", Bench.program(x, "q=1;x"), -2);
      BENCH.due("place() of it", x.place(), 5);
      BENCH.due("text " + i, Bench.program(x, times("q=1;", i)), i);
      BENCH.due("place() without one", x.place(), -1);
    }
    for (int i = 0; i < 12; i++) {
      BENCH.due("told(" + i + ", 0)", x.told(i, 0), i);
      BENCH.due("told(" + i + ", 1)", x.told(i, 1), i);
      BENCH.due("told(" + i + ", 2)", x.told(i, 2), 0);
    }
    BENCH.due("told(12, 0)", x.told(12, 0), -1);
    BENCH.due("told(-1, 0)", x.told(-1, 0), -1);
    BENCH.due("told(0, -1)", x.told(0, -1), -1);
    BENCH.due("told(0, 3)", x.told(0, 3), -1);
    BENCH.due("told(MIN, 0)", x.told(Integer.MIN_VALUE, 0), -1);
    BENCH.due("told(MAX, 0)", x.told(Integer.MAX_VALUE, 0), -1);
    Bench.feed(x, "x");
    BENCH.due("the 13th text", x.text(), -1);
    BENCH.due("the 13th has no place", x.place(), -1);
    BENCH.due("the 13th stays on the tape", x.feed(0, 0, 0, 0, 0), 21);

    Lasting y = new Lasting();
    for (int i = 0; i < 11; i++) {
      y.text();
    }
    BENCH.due("a fault ahead of the 12th", Bench.program(y, "  !"), -2);
    BENCH.due("its tape is empty", y.end(0), -1);
    BENCH.due("the 12th", y.text(), 11);
    BENCH.due("the 13th, not read", y.text(), -1);
    BENCH.due("place of the latest that was read", y.place(), -1);
  }

  private static void fine() {
    BENCH.fine("", 0, 0, 0);
    BENCH.fine(" \n ", 0, 0, 0);
    BENCH.fine("q=1;", 1, 1, 0);
    BENCH.fine("q = 1 ;\nz=q+1*2-3;", 2, 5, 0);
    BENCH.fine("note q;", 1, 1, 0);
    BENCH.fine("note-(q);", 1, 3, 0);
    BENCH.fine("if(q){}", 1, 1, 1);
    BENCH.fine("if(q){}else{q=1;}", 2, 2, 1);
    BENCH.fine("while(q<9){q=q+1;}", 2, 4, 1);
    BENCH.fine("take a to q;take h to z;", 2, 0, 0);
    BENCH.fine("put 1 in a;put 2 in h;", 2, 2, 0);
    BENCH.fine("throw 1;send 2 to 0;send 3 to 5;send 4 to 000000005;", 4, 4, 0);
    BENCH.fine("mask{}hard{}open{}", 3, 0, 1);
    BENCH.fine("mask{hard{}open{mask{}}}", 4, 0, 3);
    BENCH.fine("try{}catch q{}", 1, 0, 1);
    BENCH.fine("try{mask{}}catch z{note z;}", 3, 1, 2);
    BENCH.fine("first{}use{}last{}", 1, 0, 1);
    BENCH.fine("first{q=1;}use{mask{q=2;}}last{q=3;}", 5, 3, 2);
    BENCH.fine("within 0{}", 1, 0, 1);
    BENCH.fine("within5{}else{}", 1, 0, 1);
    BENCH.fine("within 999999999{within 1{}}else{within 2{within 3{}}}", 4, 0, 3);
    BENCH.fine("q=1<2;q=1=2;q=1#2;q=(1=2)=(3#4);", 4, 12, 0);
    BENCH.fine("q=--1;q=((1));", 2, 6, 0);
    BENCH.fine("q=1;if(q){q=2;}else{}while(0){}", 4, 4, 1);
  }

  private static void tokensThatCannotStand() {
    BENCH.faultAt("@;");
    BENCH.faultAt("@{}");
    BENCH.faultAt("@1=2;");
    BENCH.faultAt("@a=1;");
    BENCH.faultAt("@i=1;");
    BENCH.faultAt("@p=1;");
    BENCH.faultAt("q@ ;".replace(" ", ""));
    BENCH.faultAt("q @1;");
    BENCH.faultAt("q=@;");
    BENCH.faultAt("q=@a;");
    BENCH.faultAt("q=@p;");
    BENCH.faultAt("q=1@r;");
    BENCH.faultAt("q=1 @2;");
    BENCH.faultAt("q=1<2@<3;");
    BENCH.faultAt("q=1=2@=3;");
    BENCH.faultAt("q=1+@+2;");
    BENCH.faultAt("q=1-@*2;");
    BENCH.faultAt("q=(1@;");
    BENCH.faultAt("q=(1)@);");
    BENCH.faultAt("q=()".replace("()", "(@)"));
    BENCH.faultAt("q=1;@}");
    BENCH.faultAt("q=1;  @else{}");
    BENCH.faultAt("@in;");
    BENCH.faultAt("@to;");
    BENCH.faultAt("@use{}");
    BENCH.faultAt("@last{}");
    BENCH.faultAt("@catch q{}");
    BENCH.faultAt("note @;");
    BENCH.faultAt("note q@}");
    BENCH.faultAt("if @q{}");
    BENCH.faultAt("if(@){}");
    BENCH.faultAt("if(q@{}");
    BENCH.faultAt("if(q)@q=1;");
    BENCH.faultAt("if(q){}else @q=1;");
    BENCH.faultAt("if(q){}else{}@else{}");
    BENCH.faultAt("while @{}");
    BENCH.faultAt("while(1)@;");
    BENCH.faultAt("while(1){}@else{}");
    BENCH.faultAt("take @q to q;");
    BENCH.faultAt("take @i to q;");
    BENCH.faultAt("take a @in q;");
    BENCH.faultAt("take a to @a;");
    BENCH.faultAt("take a to q@");
    BENCH.faultAt("put @in a;");
    BENCH.faultAt("put 1 @to a;");
    BENCH.faultAt("put 1 in @q;");
    BENCH.faultAt("put 1 in @i;");
    BENCH.faultAt("put @a in a;");
    BENCH.faultAt("throw @;");
    BENCH.faultAt("send 1 @in 2;");
    BENCH.faultAt("send 1 to @6;");
    BENCH.faultAt("send 1 to @999999999;");
    BENCH.faultAt("send 1 to @q;");
    BENCH.faultAt("send 1 to @-1;");
    BENCH.faultAt("send 1 to 1@1;".replace("1@1;", "@11;"));
    BENCH.faultAt("mask @;");
    BENCH.faultAt("hard @(");
    BENCH.faultAt("open{@]");
    BENCH.faultAt("try{}@q");
    BENCH.faultAt("try{}catch @a{}");
    BENCH.faultAt("try{}catch @{}");
    BENCH.faultAt("try{}catch q@;");
    BENCH.faultAt("first{}@last{}");
    BENCH.faultAt("first{}use{}@use{}");
    BENCH.faultAt("first{}use{}last@;");
    BENCH.faultAt("within @{}");
    BENCH.faultAt("within @q{}");
    BENCH.faultAt("within @-1{}");
    BENCH.faultAt("within 1@;");
    BENCH.faultAt("within 1{}else@;");
    // At the text's length, with the blanks at its end.
    BENCH.faultAt("q@");
    BENCH.faultAt("q=@");
    BENCH.faultAt("q=1@");
    BENCH.faultAt("q=1  \n @");
    BENCH.faultAt("q=-@");
    BENCH.faultAt("q=(@");
    BENCH.faultAt("mask{@");
    BENCH.faultAt("mask{ q=1; @");
    BENCH.faultAt("try{}@");
    BENCH.faultAt("first{}use{}@");
    BENCH.faultAt("within@");
    BENCH.faultAt("send 1 to@");
    // Other bytes.
    BENCH.faultAt("q=1;@\t");
    BENCH.faultAt("q=1;@\r\n");
    BENCH.faultAt("q=1;@\0");
    BENCH.faultAt("q=1;@\u00ff");
    BENCH.faultAt("q=1@/2;");
    BENCH.faultAt("q=1@>2;");
    BENCH.faultAt("q=1@!2;");
    BENCH.faultAt("@Q=1;");
    BENCH.faultAt("@_");
  }

  private static void words() {
    BENCH.faultAt("@noteq;");
    BENCH.faultAt("@qq=1;");
    BENCH.faultAt("@no te q;");
    BENCH.faultAt("@notes q;");
    BENCH.faultAt("@not q;");
    BENCH.faultAt("@withins 1{}");
    BENCH.faultAt("@withinq 1{}");
    BENCH.faultAt("@withi 1{}");
    BENCH.faultAt("@ab=1;");
    BENCH.faultAt("@noTe q;");
    BENCH.faultAt("q=@qr;");
    BENCH.faultAt("q=@to;");
    BENCH.faultAt("take @aa to q;");
    BENCH.faultAt("take @ato q;");
    BENCH.faultAt("take a @toq;");
    BENCH.fault("take a to q;put q in a;send q to 1;", -1);
    BENCH.fault("send(q)to 1;put(q)in a;send 1to 1;put 1in a;within 1{}else{}throw(1);", -1);
    BENCH.fault("take\na\nto\nq\n;", -1);
  }

  private static void numbers() {
    BENCH.fault("q=999999999;", -1);
    BENCH.fault("q=000000000;", -1);
    BENCH.faultAt("q=@1234567890;");
    BENCH.faultAt("q=@0000000000;");
    BENCH.faultAt("within @0000000001{}");
    BENCH.faultAt("send 1 to @0000000001;");
    BENCH.faultAt("q=1+@12345678901234567890123;");
    BENCH.faultAt("q=1@ 0;".replace(" ", "") .replace("1@0", "@1000000000"));
    Lasting x = Bench.running("q=999999999;r=000000017;");
    Bench.times(x, 0, 2);
    BENCH.due("nine digits", x.local(0, 0), 999999999);
    BENCH.due("noughts ahead", x.local(0, 1), 17);
  }

  private static void statementsLimit() {
    BENCH.fine(times("q=1;", 40), 40, 40, 0);
    BENCH.faultAt(times("q=1;", 40) + "@q=1;");
    BENCH.faultAt(times("q=1;", 40) + " @note 1;");
    BENCH.faultAt(times("mask{", 8) + times("}", 8) + times("take a to q;", 32) + " @mask{}");
    BENCH.fault(times("q=1;", 38) + "mask{q=1;}", -1);
    BENCH.faultAt(times("q=1;", 39) + "mask{@q=1;}");
    BENCH.faultAt(times("q=1;", 40) + "@}");
    BENCH.fault(times("q=1;", 39) + "if(1){}else{}", -1);
    BENCH.faultAt(times("q=1;", 39) + "if(1){}else{@mask{}}");
  }

  private static void bodiesLimit() {
    BENCH.fine(times("mask{", 8) + times("}", 8), 8, 0, 8);
    BENCH.faultAt(times("mask{", 8) + "mask@{" + times("}", 9));
    BENCH.faultAt(times("open{", 8) + "try @{}catch q{}" + times("}", 8));
    BENCH.faultAt(times("hard{", 8) + "if(1)@{}");
    BENCH.faultAt(times("mask{", 8) + "mask @;");
    BENCH.faultAt(times("mask{", 8) + "mask @");
    BENCH.fine(times("if(1){}else{", 8) + times("}", 8), 8, 8, 8);
    BENCH.faultAt(times("if(1){}else{", 8) + "if(1)@{}else{");
    BENCH.fine("mask{}" + times("first{}use{}last{", 8) + times("}", 8) + "mask{}", 10, 0, 8);
  }

  private static void unariesLimit() {
    BENCH.fine("q=1" + times("+1", 59) + ";", 1, 60, 0);
    BENCH.faultAt("q=1" + times("+1", 59) + "+@1;");
    BENCH.faultAt("q=1" + times("*1", 59) + "*@1;");
    BENCH.faultAt("q=1" + times("+1", 58) + "*1-@-1;");
    BENCH.faultAt("q=1" + times("+1", 58) + "+-@1;");
    BENCH.faultAt("q=1" + times("+1", 58) + "+(@1);");
    BENCH.fault("q=1" + times("+1", 57) + "+-1;", -1);
    BENCH.fault("q=1" + times("+1", 57) + "+(1);", -1);
    BENCH.faultAt("q=1" + times("+1", 59) + ";r=@1;");
    BENCH.faultAt("q=1" + times("+1", 59) + ";if(@(1)){}");
    BENCH.faultAt("q=1" + times("+1", 59) + ";note @;");
    BENCH.fault("q=1" + times("+1", 59) + ";mask{}take a to q;within 9{}", -1);
  }

  private static void withinOneAnotherLimit() {
    BENCH.fine("q=" + times("-", 8) + "1;", 1, 9, 0);
    BENCH.faultAt("q=" + times("-", 8) + "@-1;");
    BENCH.faultAt("q=" + times("-", 8) + "@(1);");
    BENCH.fine("q=" + times("(", 8) + "1" + times(")", 8) + ";", 1, 9, 0);
    BENCH.faultAt("q=" + times("(", 8) + "@(1" + times(")", 9) + ";");
    BENCH.faultAt("q=" + times("(-", 4) + "@-1;");
    BENCH.fine("q=" + times("(-", 4) + "1" + times(")", 4) + "+" + times("-(", 4) + "1" + times(")", 4) + ";", 1, 18, 0);
    BENCH.fault("if(" + times("(", 8) + "1" + times(")", 8) + "){}", -1);
    BENCH.faultAt("if(" + times("(", 8) + "@(1" + times(")", 9) + "){}");
    BENCH.faultAt("while(" + times("-", 8) + "@-");
    BENCH.fault("q=(1)*(1)*(1)*(1)*(1)*(1)*(1)*(1)*(1)*(1);q=-1-(-1)-(-1)-(-1)-(-1)-(-1)-(-1)-(-1)-(-1)-(-1);", -1);
  }
}
