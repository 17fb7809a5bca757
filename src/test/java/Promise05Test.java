import java.util.ArrayList;
import java.util.List;

/** Promise 5, place: where THE FAULT lies, token by token, and of which text it is told. */
public final class Promise05Test {
  private static final Bench BENCH = new Bench("Promise 5");

  /** Each form of a statement, its tokens apart by '|'. */
  private static final String[] FORMS = {
    "q|=|1|;", "note|1|;", "if|(|1|)|{|}|else|{|}", "while|(|1|)|{|}", "take|a|to|q|;", "put|1|in|a|;", "throw|1|;",
    "send|1|to|5|;", "mask|{|}", "hard|{|}", "open|{|}", "try|{|}|catch|q|{|}", "first|{|}|use|{|}|last|{|}",
    "within|1|{|}|else|{|}", "q|=|(|-|1|+|q|*|2|)|-|3|#|4|;", "mask|{|open|{|q|=|1|;|}|}", "note|(|q|<|1|)|=|2|;",
  };
  /** Tokens that cannot stand anywhere. */
  private static final String[] NEVER = {"!", "\t", "\r", "\0", "\u00ff", "Q", "i", "p", "ab", "notes", "1234567890", "/", ">", "&", ",", "[", "_"};

  public static void main(String[] args) {
    noneYet();
    noneWithout();
    latestThatWasRead();
    notReadKeepsIt();
    staysThroughOthers();
    textsLength();
    everyTokenSpoilt();
    firstOfSeveral();
    firstByte();
    onceAtMost();
    boxForLocal();
    numberThatIsNone();
    limits();
    BENCH.close();
  }

  private static void noneYet() {
    BENCH.sentence("NONE, no text() having been read");
    Lasting x = new Lasting();
    BENCH.due("place()", x.place(), -1);
    Bench.feed(x, "!");
    BENCH.due("place() of a tape that is not read yet", x.place(), -1);
  }

  private static void noneWithout() {
    BENCH.sentence("NONE, the latest having no FAULT");
    Lasting x = new Lasting();
    Bench.program(x, "");
    BENCH.due("place()", x.place(), -1);
    Bench.program(x, "q=1;");
    BENCH.due("place()", x.place(), -1);
  }

  private static void latestThatWasRead() {
    BENCH.sentence("THE FAULT of the latest text()");
    Lasting x = new Lasting();
    Bench.program(x, "   !");
    BENCH.due("place()", x.place(), 3);
    Bench.program(x, " !");
    BENCH.due("place() of the next", x.place(), 1);
    Bench.program(x, "q=1;");
    BENCH.due("place() of a good one", x.place(), -1);
    Bench.program(x, "q=1;!");
    BENCH.due("place() of a bad one", x.place(), 4);
  }

  private static void notReadKeepsIt() {
    BENCH.sentence("of the latest text() that was read");
    Lasting x = new Lasting();
    for (int p = 0; p < 12; p++) {
      x.text();
    }
    Bench.feed(x, "  !");
    BENCH.due("text(), the 13th", x.text(), -1);
    BENCH.due("place()", x.place(), -1);
  }

  private static void staysThroughOthers() {
    BENCH.sentence("it stays through all calls but text()");
    Lasting x = new Lasting();
    Bench.program(x, "q=1;");
    Bench.program(x, "q=1;q=2;q");
    x.start(0, 0);
    x.turn(0);
    Bench.feed(x, "!");
    x.play(1, 50);
    x.stuck();
    BENCH.due("place()", x.place(), 9);
    x.clear();
    BENCH.due("place() behind clear()", x.place(), 9);
  }

  private static void textsLength() {
    BENCH.sentence("or at the text's length");
    for (String form : FORMS) {
      String[] tokens = form.split("\\|");
      StringBuilder text = new StringBuilder();
      for (int n = 1; n < tokens.length; n++) {
        text.append(n == 1 ? "" : " ").append(tokens[n - 1]);
        boolean whole = tokens[n].equals("else");
        BENCH.fault(text.toString(), whole ? -1 : text.length());
        BENCH.fault(text + " \n  ", whole ? -1 : text.length() + 4);
      }
    }
    BENCH.fault("q=1;" + " ".repeat(795) + "q", 800);
  }

  private static void everyTokenSpoilt() {
    BENCH.sentence("the first token that cannot stand there (another byte, a word that is none of those)");
    for (String form : FORMS) {
      String[] tokens = form.split("\\|");
      for (int n = 0; n <= tokens.length; n++) {
        for (String never : NEVER) {
          BENCH.faultAt(spoilt(tokens, n, never));
        }
      }
    }
  }

  /** The n-th token replaced, and what is put there marked; behind the last it is one more. */
  private static String spoilt(String[] tokens, int n, String by) {
    List<String> all = new ArrayList<>(List.of(tokens));
    if (n < all.size()) {
      all.remove(n);
    }
    all.add(n, "@" + by);
    return String.join(" ", all);
  }

  private static void firstOfSeveral() {
    BENCH.sentence("the first token that cannot stand there, of several");
    BENCH.faultAt("@! !");
    BENCH.faultAt("q=@a;b=1;!");
    BENCH.faultAt("q=1@q=2");
    BENCH.faultAt("mask{@!");
    BENCH.faultAt("mask @!");
    BENCH.faultAt("q=@;" + "q=1;".repeat(41));
    BENCH.faultAt("q=1;".repeat(40) + "@q=;!");
    BENCH.faultAt("q=1;".repeat(39) + "q=@;q=1;");
    BENCH.faultAt("mask{".repeat(8) + "mask@{!");
    BENCH.faultAt("mask{".repeat(7) + "q=@;mask{mask{");
  }

  private static void firstByte() {
    BENCH.sentence("at the first byte of the token");
    BENCH.faultAt("note @noteworthy;");
    BENCH.faultAt("note @while;");
    BENCH.faultAt("  @catch q{}");
    BENCH.faultAt("note \n\n @12345678901234567890;");
    BENCH.faultAt("send 1 to @123456789;");
    BENCH.faultAt("take a\n@within;");
  }

  private static void onceAtMost() {
    BENCH.sentence("exp: sum [(< = #) sum], one of them at most");
    for (char first : "<=#".toCharArray()) {
      for (char second : "<=#".toCharArray()) {
        BENCH.faultAt("note 1" + first + "2@" + second + "3;");
        BENCH.faultAt("note 1" + first + "@" + second + "3;");
        BENCH.faultAt("if(1" + first + "2+3@" + second + "4){}");
        BENCH.fault("note(1" + first + "2)" + second + "(3" + first + "4);", -1);
      }
    }
    BENCH.sentence("[else body], one at most, and of if and within alone");
    BENCH.faultAt("if(1){}else{}@else{}");
    BENCH.faultAt("within 1{}else{}@else{}");
    for (String other : new String[] {"q=1;", "while(1){}", "mask{}", "hard{}", "open{}", "try{}catch q{}", "first{}use{}last{}", ""}) {
      BENCH.faultAt(other + "@else{}");
    }
  }

  private static void boxForLocal() {
    BENCH.sentence("a BOX where a LOCAL should be");
    BENCH.faultAt("@h=1;");
    BENCH.faultAt("note @a;");
    BENCH.faultAt("take a to @b;");
    BENCH.faultAt("try{}catch @a{}");
    BENCH.sentence("a LOCAL where a BOX should be");
    BENCH.faultAt("take @q to q;");
    BENCH.faultAt("put 1 in @z;");
  }

  private static void numberThatIsNone() {
    BENCH.sentence("a NUMBER that is none there");
    BENCH.faultAt("send 1 to @6;");
    BENCH.faultAt("send 1 to @10;");
    BENCH.faultAt("@5;");
    BENCH.faultAt("take @1 to q;");
    BENCH.faultAt("take a to @1;");
    BENCH.faultAt("q=1 @1;");
    BENCH.faultAt("mask @1{}");
    BENCH.faultAt("within 1 @1{}");
  }

  private static void limits() {
    BENCH.sentence("the 41st statement's first token");
    BENCH.faultAt("q=1;".repeat(40) + "\n @within 5{}");
    BENCH.faultAt("q=1;".repeat(39) + "mask{ @mask{}}");
    BENCH.faultAt("q=1;".repeat(39) + "if(1){}else{ @q=1;}");
    BENCH.fault("q=1;".repeat(39) + "mask{ }", -1);
    BENCH.sentence("the ninth body's brace");
    BENCH.faultAt("open{".repeat(8) + "try  @{}catch q{}");
    BENCH.faultAt("open{".repeat(8) + "first @{}use{}last{}");
    BENCH.faultAt("open{".repeat(8) + "while(1)@{}");
    BENCH.faultAt("open{".repeat(8) + "within 5 @{}else{}");
    BENCH.sentence("the 61st unary's first token");
    BENCH.faultAt("q=1" + "*1".repeat(59) + "*@q;");
    BENCH.faultAt("q=1" + "*1".repeat(59) + "*@(q);");
    BENCH.faultAt("q=1" + "*1".repeat(59) + "*@-q;");
    BENCH.faultAt("q=1" + "*1".repeat(58) + "*-@q;");
    BENCH.faultAt("q=1" + "*1".repeat(58) + "*(@q);");
    BENCH.faultAt("q=1" + "*1".repeat(59) + ";while( @q){}");
    BENCH.sentence("the - or parenthesis of the ninth");
    BENCH.faultAt("q=" + "-".repeat(8) + "@-1;");
    BENCH.faultAt("q=" + "-".repeat(8) + " @(1);");
    BENCH.faultAt("q=" + "(".repeat(8) + " @-1;");
    BENCH.faultAt("q=" + "(".repeat(8) + "1<2)+@;");
    BENCH.faultAt("q=" + "(".repeat(8) + "1<@(2)");
  }
}
