import java.util.List;

/** Promise 4, text: numbers, faults and refusals, and the limits of section 1 that a text may just reach. */
public final class Promise04Test {
  private static final Bench BENCH = new Bench("Promise 4");

  public static void main(String[] args) {
    numbersFromNought();
    emptyThen();
    emptyAfterAFault();
    faultsHaveNoNumber();
    thirteenth();
    thirteenthStays();
    emptyTexts();
    fullTape();
    boxLetters();
    localLetters();
    wordsOfTwoAndMore();
    asLongAsCanBe();
    nineDigits();
    blanks();
    fortyStatements();
    eightBodies();
    eightWithinOneAnother();
    sixtyUnaries();
    threadsOfSends();
    numbersOfWithins();
    emptyBodies();
    BENCH.close();
  }

  private static void numbersFromNought() {
    BENCH.sentence("its number, from 0");
    Lasting x = new Lasting();
    for (int p = 0; p < 12; p++) {
      BENCH.due("text() " + p, Bench.program(x, "q=1;".repeat(p)), p);
    }
    for (int p = 0; p < 12; p++) {
      BENCH.due("told(" + p + ", 0)", x.told(p, 0), p);
    }
  }

  private static void emptyThen() {
    BENCH.sentence("The tape is a PROGRAM's text, and is empty then");
    Lasting x = new Lasting();
    BENCH.due("text()", Bench.program(x, "q=1;".repeat(10)), 0);
    BENCH.due("end(20)", x.end(20), -1);
    BENCH.due("text() of the empty tape", x.text(), 1);
    BENCH.due("its statements", x.told(1, 0), 0);
    BENCH.due("those of the first", x.told(0, 0), 10);
    BENCH.due("feed", Bench.feedAll(x, ' '), 20);
  }

  private static void emptyAfterAFault() {
    BENCH.sentence("The tape is empty with a FAULT, too");
    Lasting x = new Lasting();
    BENCH.due("text()", Bench.program(x, "!".repeat(40)), -2);
    BENCH.due("end(20)", x.end(20), -1);
    BENCH.due("text() of the empty tape", x.text(), 0);
    BENCH.due("place()", x.place(), -1);
  }

  private static void faultsHaveNoNumber() {
    BENCH.sentence("-2 with a FAULT: it is no PROGRAM, and none of the 12");
    Lasting x = new Lasting();
    for (int p = 0; p < 12; p++) {
      BENCH.due("text() of a fault", Bench.program(x, "q=1;q=2;q"), -2);
      BENCH.due("told(" + p + ", 0)", x.told(p, 0), -1);
      BENCH.due("start(0, " + p + ")", x.start(0, p), -1);
      BENCH.due("text()", Bench.program(x, "q=1;"), p);
      BENCH.due("told(" + p + ", 0)", x.told(p, 0), 1);
    }
    BENCH.sentence("-2 with a FAULT: nothing of its text is in the next one");
    Lasting y = new Lasting();
    for (int i = 0; i < 5; i++) {
      BENCH.due("text() of a fault", Bench.program(y, "q=1" + "+1".repeat(59) + ";" + "mask{".repeat(8) + "note"), -2);
    }
    BENCH.due("text() as long", Bench.program(y, "q=2" + "+2".repeat(59) + ";"), 0);
    BENCH.dueRow("told", y.told(0, 0) + " " + y.told(0, 1) + " " + y.told(0, 2), "1 60 0");
    y.start(0, 0);
    BENCH.dueRow("it runs", Bench.times(y, 0, 2) + " " + y.local(0, 0), "02 120");
  }

  private static Lasting twelve() {
    Lasting x = new Lasting();
    for (int p = 0; p < 11; p++) {
      x.text();
    }
    BENCH.due("text(), the twelfth", Bench.program(x, "note 1;"), 11);
    return x;
  }

  private static void thirteenth() {
    BENCH.sentence("NONE: there are 12");
    Lasting x = twelve();
    BENCH.due("text() of an empty tape", x.text(), -1);
    Bench.feed(x, "q=1;");
    BENCH.due("text() of a good one", x.text(), -1);
    x.clear();
    BENCH.due("text() behind clear()", x.text(), -1);
    BENCH.due("told(11, 0)", x.told(11, 0), 1);
    BENCH.due("told(12, 0)", x.told(12, 0), -1);
    BENCH.due("start(0, 12)", x.start(0, 12), -1);
    BENCH.due("start(0, 11)", x.start(0, 11), 1);
    x.turn(0);
    BENCH.due("it is the twelfth's", x.noted(0), 1);
  }

  private static void thirteenthStays() {
    BENCH.sentence("(it is not read, and stays)");
    Lasting x = twelve();
    Bench.feed(x, "!".repeat(20));
    BENCH.due("text() of a faulty one", x.text(), -1);
    BENCH.due("place()", x.place(), -1);
    BENCH.due("text() again", x.text(), -1);
    BENCH.due("feed", Bench.feedAll(x, '!'), 40);
    BENCH.due("end(1)", x.end(1), 21);
    Lasting y = new Lasting();
    for (int p = 0; p < 11; p++) {
      y.text();
    }
    Bench.program(y, "  !");
    BENCH.due("the twelfth", y.text(), 11);
    BENCH.due("place() of it", y.place(), -1);
  }

  private static void emptyTexts() {
    BENCH.sentence("{statement}: none at all is a PROGRAM");
    BENCH.fine("", 0, 0, 0);
    BENCH.fine(" ", 0, 0, 0);
    BENCH.fine("\n", 0, 0, 0);
    BENCH.fine(" \n".repeat(400), 0, 0, 0);
  }

  private static void fullTape() {
    BENCH.sentence("a text of 800 bytes is read to its last one");
    BENCH.fine(("q = 1" + " ".repeat(14) + ";").repeat(40), 40, 40, 0);
    BENCH.fine("q=1;" + " ".repeat(795) + "\n", 1, 1, 0);
    BENCH.fine(" ".repeat(796) + "q=1;", 1, 1, 0);
    BENCH.fault(" ".repeat(797) + "q=1", 800);
    BENCH.fault(" ".repeat(799) + "1", 799);
    BENCH.fault(" ".repeat(799) + "q", 800);
    BENCH.fault(" ".repeat(796) + "note", 800);
    BENCH.fault("q=" + "1".repeat(798), 2);
    BENCH.fault("n".repeat(800), 0);
    BENCH.sentence("a text of 800 tokens is read, too");
    for (char c : "!;{}(-1a".toCharArray()) {
      BENCH.fault(("" + c).repeat(800), 0);
    }
    BENCH.fault("q=" + "(".repeat(798), 10);
    BENCH.fault("q=1;".repeat(200), 160);
  }

  private static void boxLetters() {
    BENCH.sentence("BOXES are a .. h");
    for (char c = 'a'; c <= 'z'; c++) {
      BENCH.fault("take " + c + " to q;", c <= 'h' ? -1 : 5);
      BENCH.fault("put 1 in " + c + ";", c <= 'h' ? -1 : 9);
    }
    for (char c : "A`H@QZ[{".toCharArray()) {
      BENCH.fault("take " + c + " to q;", 5);
    }
  }

  private static void localLetters() {
    BENCH.sentence("LOCALS q .. z");
    for (char c = 'a'; c <= 'z'; c++) {
      BENCH.fault(c + "=1;", c >= 'q' ? -1 : 0);
      BENCH.fault("note " + c + ";", c >= 'q' ? -1 : 5);
      BENCH.fault("take a to " + c + ";", c >= 'q' ? -1 : 10);
      BENCH.fault("try{}catch " + c + "{}", c >= 'q' ? -1 : 11);
    }
    BENCH.sentence("(letters alone)");
    BENCH.faultAt("@qq=1;");
    BENCH.faultAt("note @qz;");
    BENCH.faultAt("take @ah to q;");
    BENCH.fine("q=q;", 1, 1, 0);
  }

  private static void wordsOfTwoAndMore() {
    BENCH.sentence("WORDS are rows of two and more small letters");
    BENCH.fine("put 1 in a;", 1, 1, 0);
    BENCH.fine("if(1){}", 1, 1, 1);
    BENCH.faultAt("@i(1){}");
    BENCH.faultAt("put 1 @i a;");
    BENCH.faultAt("take a @t q;");
    String[] words = "note if else while take to put in throw send mask hard open try catch first use last within".split(" ");
    for (String word : words) {
      for (int at = 0; at < word.length(); at++) {
        for (char c = 'a'; c <= 'z'; c++) {
          String other = word.substring(0, at) + c + word.substring(at + 1);
          if (!List.of(words).contains(other)) {
            BENCH.fault(other + " 1;", 0);
          }
        }
      }
      BENCH.fault(word.toUpperCase(), 0);
      BENCH.fault(word + "x 1;", 0);
      BENCH.fault("x" + word + " 1;", 0);
      BENCH.fault(word.substring(0, word.length() - 1) + " ", word.equals("to") ? 2 : 0);
      BENCH.fault(word.charAt(0) + " " + word.substring(1), word.charAt(0) >= 'q' ? 2 : 0);
    }
  }

  private static void asLongAsCanBe() {
    BENCH.sentence("both as long as can be");
    BENCH.fine("note1;note2;", 2, 2, 0);
    BENCH.fine("within5{}put3in a;send3to4;", 3, 2, 1);
    BENCH.fine("take a to q;q=1;", 2, 1, 0);
    BENCH.faultAt("@noteq;");
    BENCH.faultAt("@throwq;");
    BENCH.faultAt("take @ato q;");
    BENCH.faultAt("try{}@catchq{}");
    BENCH.faultAt("if(1){}@elsemask{}");
    BENCH.faultAt("q=1 @2;");
    BENCH.faultAt("q=@1234567891;");
    BENCH.faultAt("note @qq;");
  }

  private static void nineDigits() {
    BENCH.sentence("NUMBERS rows of digits, 9 at most");
    for (int n = 1; n <= 9; n++) {
      BENCH.fine("q=" + "9".repeat(n) + ";", 1, 1, 0);
      BENCH.fine("q=" + "0".repeat(n) + ";", 1, 1, 0);
    }
    Lasting x = Bench.running("q=999999999;r=000000000;s=0;t=000000001;u=100000000;");
    Bench.times(x, 0, 5);
    BENCH.dueRow("locals", Bench.locals(x, 0), "999999999 0 0 1 100000000 0 0 0 0 0");
    BENCH.sentence("(a longer row is none of them, as a whole)");
    for (int n = 10; n <= 30; n++) {
      BENCH.faultAt("q=@" + "1".repeat(n) + ";");
      BENCH.faultAt("q=@" + "0".repeat(n) + ";");
    }
    BENCH.faultAt("q=@2147483648;");
    BENCH.faultAt("q=@4294967297;");
    BENCH.faultAt("q=@18446744073709551617;");
  }

  private static void blanks() {
    BENCH.sentence("Blanks (32, 10) between tokens where needed");
    for (int b = 0; b < 256; b++) {
      boolean blank = b == 32 || b == 10;
      BENCH.fault("q=1;" + (char) b, blank ? -1 : b >= 'q' && b <= 'z' ? 5 : 4);
      boolean beginsUnary = b == '(' || b == '-';
      boolean digit = b >= '0' && b <= '9';
      if (b < 'a' || b > 'z') {
        BENCH.fault("note" + (char) b + "+", digit ? 6 : blank || beginsUnary ? 5 : 4);
      }
    }
    BENCH.fine("  take \n a \n\n to \n q \n ; \n", 1, 0, 0);
    BENCH.fine("q=1;if(q){}else{q=2;}while(q){}take a to q;try{}catch q{}first{}use{}last{}within 1{}else{}", 8, 4, 1);
    BENCH.fine("q = ( - 1 + 2 ) * 3 < 4 ;", 1, 6, 0);
  }

  private static void fortyStatements() {
    BENCH.sentence("40 statements at most");
    BENCH.fine("q=1;".repeat(39), 39, 39, 0);
    BENCH.fine("q=1;".repeat(40), 40, 40, 0);
    BENCH.faultAt("q=1;".repeat(40) + "@q=1;");
    BENCH.fine("mask{}".repeat(40), 40, 0, 1);
    BENCH.faultAt("mask{}".repeat(40) + "@mask{}");
    BENCH.fine("mask{" + "q=1;".repeat(39) + "}", 40, 39, 1);
    BENCH.faultAt("mask{" + "q=1;".repeat(39) + "@q=1;}");
    BENCH.faultAt("mask{" + "q=1;".repeat(39) + "}@q=1;");
    BENCH.fine("try{" + "q=1;".repeat(20) + "}catch q{" + "q=1;".repeat(19) + "}", 40, 39, 1);
    BENCH.faultAt("try{" + "q=1;".repeat(20) + "}catch q{" + "q=1;".repeat(19) + "@q=1;}");
    BENCH.fine("first{" + "q=1;".repeat(13) + "}use{" + "q=1;".repeat(13) + "}last{" + "q=1;".repeat(13) + "}", 40, 39, 1);
    BENCH.faultAt("first{" + "q=1;".repeat(13) + "}use{" + "q=1;".repeat(13) + "}last{" + "q=1;".repeat(13) + "@note 1;}");
  }

  private static void eightBodies() {
    BENCH.sentence("bodies within one another 8 at most");
    String[][] ways = {
      {"if(1){", "}"}, {"if(1){}else{", "}"}, {"while(1){", "}"}, {"mask{", "}"}, {"hard{", "}"}, {"open{", "}"},
      {"try{", "}catch q{}"}, {"try{}catch q{", "}"}, {"first{", "}use{}last{}"}, {"first{}use{", "}last{}"},
      {"first{}use{}last{", "}"}, {"within 1{", "}"}, {"within 1{}else{", "}"}, {"within 1{", "}else{}"},
    };
    for (String[] way : ways) {
      int exps = way[0].startsWith("if") || way[0].startsWith("while") ? 1 : 0;
      for (int n = 1; n <= 8; n++) {
        BENCH.fine(way[0].repeat(n) + way[1].repeat(n), n, n * exps, n);
      }
      String ninth = way[0].substring(0, way[0].indexOf('{'));
      BENCH.faultAt(way[0].repeat(8) + ninth + "@" + way[0].substring(ninth.length()) + way[1].repeat(9));
    }
    BENCH.fine("mask{".repeat(8) + "q=1;}".repeat(8), 16, 8, 8);
    BENCH.fine(("mask{".repeat(8) + "}".repeat(8)).repeat(5), 40, 0, 8);
  }

  private static void eightWithinOneAnother() {
    BENCH.sentence("within one another (- and parentheses) 8 at most");
    for (int open = 0; open < 256; open++) {
      StringBuilder before = new StringBuilder();
      StringBuilder after = new StringBuilder();
      for (int bit = 0; bit < 8; bit++) {
        boolean minus = (open >> bit & 1) == 0;
        before.append(minus ? "-" : "(");
        after.append(minus ? "" : ")");
      }
      BENCH.fine("note " + before + "q" + after + ";", 1, 9, 0);
      BENCH.faultAt("note " + before + "@-q" + after + ";");
      BENCH.faultAt("note " + before + "@(q)" + after + ";");
    }
    BENCH.fine("note " + "-".repeat(8) + "q+" + "-".repeat(8) + "q*" + "(".repeat(8) + "q" + ")".repeat(8) + ";", 1, 27, 0);
    BENCH.fine("note (" + "-".repeat(7) + "q-" + "-".repeat(7) + "q);", 1, 17, 0);
    BENCH.faultAt("note (" + "-".repeat(7) + "q-" + "-".repeat(7) + "@-q);");
    BENCH.fine("if(" + "(".repeat(8) + "q" + ")".repeat(8) + "){}", 1, 9, 1);
    BENCH.fine("while(" + "-".repeat(8) + "q){}", 1, 9, 1);
  }

  private static void sixtyUnaries() {
    BENCH.sentence("60 unaries in a text");
    BENCH.fine("note 1" + "+1".repeat(58) + ";", 1, 59, 0);
    BENCH.fine("note 1" + "+1".repeat(59) + ";", 1, 60, 0);
    BENCH.faultAt("note 1" + "+1".repeat(59) + "+@1;");
    BENCH.fine("note 1+1;".repeat(30), 30, 60, 0);
    BENCH.faultAt("note 1+1;".repeat(30) + "note @1;");
    BENCH.fine("note-q;".repeat(30), 30, 60, 0);
    BENCH.faultAt("note-q;".repeat(30) + "throw @-q;");
    BENCH.fine("note(q);".repeat(30), 30, 60, 0);
    BENCH.faultAt("note(q);".repeat(30) + "put @(q) in a;");
    BENCH.faultAt("note 1+1;".repeat(29) + "note 1<(@1);");
    BENCH.fine("note 1+1;".repeat(30) + "take a to q;mask{}within 5{}", 33, 60, 1);
  }

  private static void threadsOfSends() {
    BENCH.sentence("send exp to NUMBER ; (0 .. 5)");
    for (int n = 0; n <= 20; n++) {
      BENCH.fault("send 1 to " + n + ";", n <= 5 ? -1 : 10);
    }
    BENCH.faultAt("send 1 to @999999999;");
    BENCH.faultAt("send 1 to @-1;");
    BENCH.faultAt("send 1 to @q;");
    BENCH.faultAt("send 1 to @0000000001;");
    BENCH.fine("send 1 to 000000005;", 1, 1, 0);
    BENCH.faultAt("send 1 to @000000006;");
  }

  private static void numbersOfWithins() {
    BENCH.sentence("within NUMBER body");
    BENCH.fine("within 0{}within 999999999{}", 2, 0, 1);
    BENCH.faultAt("within @1000000000{}");
    BENCH.faultAt("within @-1{}");
    BENCH.faultAt("within @q{}");
    BENCH.faultAt("within @(1){}");
    BENCH.faultAt("within @{}");
  }

  private static void emptyBodies() {
    BENCH.sentence("body: { {statement} }, none being a statement");
    BENCH.fine("if(1){}else{}while(0){}mask{}hard{}open{}try{}catch q{}first{}use{}last{}within 0{}else{}", 8, 2, 1);
    BENCH.faultAt("mask@;");
    BENCH.faultAt("mask{@;}");
    BENCH.faultAt("mask{@{}}");
    BENCH.faultAt("@;");
  }
}
