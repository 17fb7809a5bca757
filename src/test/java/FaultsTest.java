import java.util.ArrayDeque;
import java.util.ArrayList;
import java.util.Deque;
import java.util.List;
import java.util.Random;
import java.util.regex.Matcher;
import java.util.regex.Pattern;

/**
 * Texts made at random and then spoilt, the class beside a second reader: one that knows the
 * grammar as rules for what is expected next, and keeps a pile of what is expected.
 */
public final class FaultsTest {
  private static final Bench BENCH = new Bench("FaultsTest");
  private static final Pattern TOKEN = Pattern.compile("[a-z]+|[0-9]+|[ \n]+|.", Pattern.DOTALL);
  private static final String PIECES = "q|z|a|h|i|1|5|6|123456789|1234567890|=|;|(|)|{|}|<|#|+|-|*| |\n|note|if|else|while|take|"
      + "to|put|in|throw|send|mask|hard|open|try|catch|first|use|last|within|ab|nope|\t|Z|.|\u00e9|\0|mask{|(-|q=1;|{}|--";

  public static void main(String[] args) {
    Random random = new Random(7);
    int faults = 0;
    for (int i = 0; i < 15000; i++) {
      String text = spoilt(random, Script.text(Script.make(random, 3 + random.nextInt(45))));
      if (text.length() <= 800) {
        faults += compare(text);
      }
    }
    for (int i = 0; i < 10000; i++) {
      faults += compare(pieces(random));
    }
    System.out.println("FaultsTest: " + faults + " texts had a fault");
    BENCH.close();
  }

  private static String pieces(Random random) {
    String[] pieces = PIECES.split("\\|");
    StringBuilder s = new StringBuilder();
    for (int n = random.nextInt(12); n > 0; n--) {
      s.append(pieces[random.nextInt(pieces.length)]).append(random.nextBoolean() ? " " : "");
    }
    return s.toString();
  }

  private static String spoilt(Random random, String text) {
    String[] pieces = PIECES.split("\\|");
    StringBuilder s = new StringBuilder(text);
    for (int n = random.nextInt(3); n > 0 && s.length() > 0; n--) {
      int at = random.nextInt(s.length());
      switch (random.nextInt(6)) {
        case 0 -> s.deleteCharAt(at);
        case 1 -> s.insert(at, pieces[random.nextInt(pieces.length)]);
        case 2 -> s.setCharAt(at, pieces[random.nextInt(pieces.length)].charAt(0));
        case 3 -> s.setLength(at);
        case 4 -> s.insert(at, s.substring(at / 2, at));
        default -> s.append(' ');
      }
    }
    return s.toString();
  }

  private static int compare(String text) {
    Lasting x = new Lasting();
    Reader reader = new Reader(text);
    int place = reader.fault();
    BENCH.due("text() of " + text, Bench.program(x, text), place == -1 ? 0 : -2);
    BENCH.due("place() of " + text, x.place(), place);
    if (place == -1) {
      BENCH.dueRow("told of " + text, x.told(0, 0) + " " + x.told(0, 1) + " " + x.told(0, 2),
          reader.statements + " " + reader.unaries + " " + reader.deepest);
    }
    return place == -1 ? 0 : 1;
  }

  /** What is expected: a token's own kind, or one of the names in capitals, which become others. */
  private static final class Reader {
    private final List<String> kinds = new ArrayList<>();
    private final List<Integer> places = new ArrayList<>();
    private final Deque<String> expected = new ArrayDeque<>();
    int statements;
    int unaries;
    int deepest;
    private int bodies;
    private int nested;
    private int at;

    Reader(String text) {
      Matcher m = TOKEN.matcher(text);
      while (m.find()) {
        if (!m.group().isBlank() || m.group().charAt(0) != ' ' && m.group().charAt(0) != '\n') {
          kinds.add(kind(m.group()));
          places.add(m.start());
        }
      }
      kinds.add("end");
      places.add(text.length());
    }

    private static String kind(String token) {
      if (token.matches("[a-h]")) {
        return "box";
      }
      if (token.matches("[q-z]")) {
        return "local";
      }
      if (token.matches("[0-9]{1,9}")) {
        return Integer.parseInt(token) <= 5 ? "thread" : "number";
      }
      if (token.matches("[a-z]{2,}") || token.matches("[=;(){}<#+*-]")) {
        return List.of("box", "local", "thread", "number", "end").contains(token) ? "?" : token;
      }
      return "?";
    }

    int fault() {
      expect("STATEMENTS end");
      while (!expected.isEmpty()) {
        String next = expected.pop();
        if (!next.equals(next.toUpperCase()) || next.matches("[=;(){}<#+*-]")) {
          if (!stands(next)) {
            return places.get(at);
          }
          at++;
        } else if (!unfold(next, kinds.get(at))) {
          return places.get(at);
        }
      }
      return -1;
    }

    private boolean stands(String next) {
      String kind = kinds.get(at);
      return kind.equals(next) || next.equals("number") && kind.equals("thread");
    }

    private void expect(String row) {
      String[] all = row.trim().split(" +");
      for (int i = all.length - 1; i >= 0; i--) {
        expected.push(all[i]);
      }
    }

    private boolean unfold(String name, String kind) {
      switch (name) {
        case "STATEMENTS" -> {
          if (!kind.equals("}") && !kind.equals("end")) {
            expect("STATEMENT STATEMENTS");
          }
        }
        case "STATEMENT" -> {
          return ++statements <= 40 && statement(kind);
        }
        case "BODY" -> {
          bodies++;
          deepest = Math.max(deepest, bodies);
          expect("{ STATEMENTS } OUT");
          return bodies <= 8;
        }
        case "OUT" -> bodies--;
        case "MAYELSE" -> expectIf(kind.equals("else"), "else BODY");
        case "EXP" -> expect("SUM MORE");
        case "MORE" -> expectIf(kind.matches("[<=#]"), kind + " SUM");
        case "SUM" -> expect("PRODUCT SUMS");
        case "SUMS" -> expectIf(kind.matches("[+-]"), kind + " PRODUCT SUMS");
        case "PRODUCT" -> expect("UNARY PRODUCTS");
        case "PRODUCTS" -> expectIf(kind.equals("*"), "* UNARY PRODUCTS");
        case "UNARY" -> {
          return ++unaries <= 60 && unary(kind);
        }
        case "OUTER" -> nested--;
        default -> throw new IllegalStateException(name);
      }
      return true;
    }

    private void expectIf(boolean so, String row) {
      if (so) {
        expect(row);
      }
    }

    private boolean unary(String kind) {
      switch (kind) {
        case "number", "thread", "local" -> expect(kind);
        case "-" -> {
          expect("- UNARY OUTER");
          return ++nested <= 8;
        }
        case "(" -> {
          expect("( EXP ) OUTER");
          return ++nested <= 8;
        }
        default -> {
          return false;
        }
      }
      return true;
    }

    private boolean statement(String kind) {
      switch (kind) {
        case "local" -> expect("local = EXP ;");
        case "note", "throw" -> expect(kind + " EXP ;");
        case "if" -> expect("if ( EXP ) BODY MAYELSE");
        case "while" -> expect("while ( EXP ) BODY");
        case "take" -> expect("take box to local ;");
        case "put" -> expect("put EXP in box ;");
        case "send" -> expect("send EXP to thread ;");
        case "mask", "hard", "open" -> expect(kind + " BODY");
        case "try" -> expect("try BODY catch local BODY");
        case "first" -> expect("first BODY use BODY last BODY");
        case "within" -> expect("within number BODY MAYELSE");
        default -> {
          return false;
        }
      }
      return true;
    }
  }
}
