import java.util.ArrayList;
import java.util.List;
import java.util.Random;

/** Programs made at random as trees, for ModelTest to run beside the class, and their texts. */
final class Script {
  static final class Exp {
    final char kind; // 'n' number, 'l' local, '~' minus, or a sign between two
    final int number;
    final Exp left;
    final Exp right;

    Exp(char kind, int number, Exp left, Exp right) {
      this.kind = kind;
      this.number = number;
      this.left = left;
      this.right = right;
    }

    long worked(long[] locals) {
      return switch (kind) {
        case 'n' -> number;
        case 'l' -> locals[number];
        case '~' -> -left.worked(locals);
        case '+' -> left.worked(locals) + right.worked(locals);
        case '-' -> left.worked(locals) - right.worked(locals);
        case '*' -> left.worked(locals) * right.worked(locals);
        case '<' -> left.worked(locals) < right.worked(locals) ? 1 : 0;
        case '=' -> left.worked(locals) == right.worked(locals) ? 1 : 0;
        default -> left.worked(locals) != right.worked(locals) ? 1 : 0;
      };
    }

    String text() {
      return switch (kind) {
        case 'n' -> String.valueOf(number);
        case 'l' -> String.valueOf((char) ('q' + number));
        case '~' -> "-" + inner(left);
        default -> inner(left) + kind + inner(right);
      };
    }

    private static String inner(Exp e) {
      return e.kind == 'n' || e.kind == 'l' ? e.text() : "(" + e.text() + ")";
    }

    int unaries() {
      return switch (kind) {
        case 'n', 'l' -> 1;
        case '~' -> 1 + innerUnaries(left);
        default -> innerUnaries(left) + innerUnaries(right);
      };
    }

    private static int innerUnaries(Exp e) {
      return e.unaries() + (e.kind == 'n' || e.kind == 'l' ? 0 : 1);
    }
  }

  static final class Statement {
    final String kind;
    int letter;
    int number;
    Exp exp;
    List<Statement> a;
    List<Statement> b;
    List<Statement> c;

    Statement(String kind) {
      this.kind = kind;
    }
  }

  private final Random random;
  private int statementsLeft;
  private int unariesLeft;

  private Script(Random random, int statements) {
    this.random = random;
    this.statementsLeft = statements;
    this.unariesLeft = 55;
  }

  static List<Statement> make(Random random, int statements) {
    return new Script(random, statements).body(0, 4);
  }

  private static final String[] KINDS = {
    "=", "note", "note", "if", "while", "take", "take", "put", "put", "throw", "send", "send", "mask", "mask", "hard",
    "open", "open", "try", "try", "try", "first", "first", "first", "within", "within", "within",
  };

  private List<Statement> body(int depth, int most) {
    List<Statement> body = new ArrayList<>();
    int n = random.nextInt(most + 1) + (depth == 0 ? 3 : 0);
    for (int i = 0; i < n && statementsLeft > 0; i++) {
      body.add(statement(depth));
    }
    return body;
  }

  private Statement statement(int depth) {
    statementsLeft--;
    String kind = KINDS[random.nextInt(KINDS.length)];
    if (depth >= 8 && !List.of("=", "note", "take", "put", "throw", "send").contains(kind)) {
      kind = "take";
    }
    if (unariesLeft < 8 && List.of("=", "note", "if", "while", "put", "throw", "send").contains(kind)) {
      kind = "take";
    }
    Statement s = new Statement(kind);
    s.letter = random.nextInt(3);
    switch (kind) {
      case "=", "note", "throw" -> s.exp = exp();
      case "take" -> s.number = random.nextInt(3);
      case "put" -> {
        s.exp = exp();
        s.number = random.nextInt(3);
      }
      case "send" -> {
        s.exp = exp();
        s.number = random.nextInt(4);
      }
      case "if" -> {
        s.exp = exp();
        s.a = body(depth + 1, 3);
        s.b = random.nextBoolean() ? body(depth + 1, 2) : null;
      }
      case "while" -> {
        s.exp = random.nextInt(3) == 0 ? exp() : new Exp('n', 1, null, null);
        unariesLeft--;
        s.a = body(depth + 1, 4);
      }
      case "try" -> {
        s.a = body(depth + 1, 4);
        s.b = body(depth + 1, 2);
      }
      case "first" -> {
        s.a = body(depth + 1, 2);
        s.b = body(depth + 1, 3);
        s.c = body(depth + 1, 2);
      }
      case "within" -> {
        s.number = random.nextInt(4) == 0 ? random.nextInt(30) : random.nextInt(8);
        s.a = body(depth + 1, 4);
        s.b = random.nextBoolean() ? body(depth + 1, 2) : null;
      }
      default -> s.a = body(depth + 1, 4);
    }
    return s;
  }

  private Exp exp() {
    Exp e = leaf();
    int n = random.nextInt(3);
    for (int i = 0; i < n; i++) {
      char sign = "~+-*<=#".charAt(random.nextInt(7));
      e = sign == '~' ? new Exp(sign, 0, e, null) : new Exp(sign, 0, e, leaf());
    }
    unariesLeft -= e.unaries();
    return e;
  }

  private Exp leaf() {
    return random.nextBoolean() ? new Exp('n', random.nextInt(12), null, null) : new Exp('l', random.nextInt(3), null, null);
  }

  static String text(List<Statement> body) {
    StringBuilder s = new StringBuilder();
    for (Statement each : body) {
      s.append(text(each));
    }
    return s.toString();
  }

  private static String braced(List<Statement> body) {
    return "{" + text(body) + "}";
  }

  private static String text(Statement s) {
    char local = (char) ('q' + s.letter);
    char box = (char) ('a' + s.number % 8);
    return switch (s.kind) {
      case "=" -> local + "=" + s.exp.text() + ";";
      case "note", "throw" -> s.kind + " " + s.exp.text() + ";";
      case "take" -> "take " + box + " to " + local + ";";
      case "put" -> "put " + s.exp.text() + " in " + box + ";";
      case "send" -> "send " + s.exp.text() + " to " + s.number + ";";
      case "if", "while" -> s.kind + "(" + s.exp.text() + ")" + braced(s.a) + (s.b == null ? "" : "else" + braced(s.b));
      case "try" -> "try" + braced(s.a) + "catch " + local + braced(s.b);
      case "first" -> "first" + braced(s.a) + "use" + braced(s.b) + "last" + braced(s.c);
      case "within" -> "within " + s.number + braced(s.a) + (s.b == null ? "" : "else" + braced(s.b));
      default -> s.kind + braced(s.a);
    };
  }
}
