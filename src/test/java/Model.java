import java.util.ArrayList;
import java.util.List;
import java.util.concurrent.Semaphore;

/**
 * The document's threads told another way: each one is a thread of the Java machine that does its
 * script directly, with Java's own exceptions for what is thrown and 'finally' for what is left.
 * A turn lets it go on till it pauses with the turn's answer.
 */
final class Model {
  static final class Thrown extends Exception {
    private static final long serialVersionUID = 1L;
    final long value;
    final transient Limit limit;

    Thrown(long value, Limit limit) {
      super(null, null, false, false);
      this.value = value;
      this.limit = limit;
    }
  }

  static final class Abandoned extends Error {
    private static final long serialVersionUID = 1L;
  }

  /** A within that its strand is in. */
  static final class Limit {
    final int depth;
    final int due;
    boolean came;

    Limit(int depth, int due) {
      this.depth = depth;
      this.due = due;
    }
  }

  static final class Entry {
    final int who;
    final long value;
    final Limit limit;

    Entry(int who, long value, Limit limit) {
      this.who = who;
      this.value = value;
      this.limit = limit;
    }
  }

  final Long[] boxes = new Long[8];
  final List<String> notes = new ArrayList<>();
  final Strand[] strands = new Strand[6];
  int clock;

  Model() {
    for (int i = 0; i < 6; i++) {
      strands[i] = new Strand(i, null, 0);
    }
  }

  void start(int thread, List<Script.Statement> script) {
    strands[thread] = new Strand(thread, script, 1);
    strands[thread].begin();
  }

  int turn(int thread) {
    if (strands[thread].state != 1) {
      return -1;
    }
    clock++;
    for (Strand strand : strands) {
      for (Limit limit : strand.limits) {
        if (!limit.came && clock >= limit.due) {
          limit.came = true;
          strand.row.add(new Entry(7, 0, limit));
        }
      }
    }
    return turnByStillClock(thread);
  }

  int turnByStillClock(int thread) {
    Strand strand = strands[thread];
    int answer = strand.goOn();
    strand.steps += answer <= 3 ? 1 : 0;
    return answer;
  }

  int hurl(int thread, long v) {
    Strand strand = strands[thread];
    if (strand.state != 1 || strand.row.stream().filter(e -> e.who == 6).count() == 8) {
      return -1;
    }
    strand.row.add(new Entry(6, v, null));
    return strand.row.size();
  }

  int fill(int box, long v) {
    if (boxes[box] != null) {
      return -1;
    }
    boxes[box] = v;
    return 1;
  }

  void close() {
    for (Strand strand : strands) {
      strand.abandon();
    }
  }

  private void note(int kind, int thread, long value) {
    if (notes.size() < 400) {
      notes.add(kind + "/" + thread + "/" + clock + "=" + value);
    }
  }

  final class Strand {
    final int number;
    final List<Script.Statement> script;
    final long[] locals = new long[10];
    final List<Entry> row = new ArrayList<>();
    final List<Limit> limits = new ArrayList<>();
    int state;
    int strength;
    int steps;
    int depth;
    int held;
    long died;
    private final Semaphore mayGo = new Semaphore(0);
    private final Semaphore paused = new Semaphore(0);
    private volatile boolean abandoned;
    private volatile int answer;
    private Thread carrier;

    Strand(int number, List<Script.Statement> script, int state) {
      this.number = number;
      this.script = script;
      this.state = state;
    }

    void begin() {
      carrier = new Thread(this::carry);
      carrier.setDaemon(true);
      carrier.start();
    }

    int goOn() {
      mayGo.release();
      paused.acquireUninterruptibly();
      return answer;
    }

    void abandon() {
      if (carrier != null) {
        abandoned = true;
        mayGo.release();
        awaitEnd();
      }
    }

    /** Strands share the model, so one alone may be under way, also while it is given up. */
    private void awaitEnd() {
      try {
        carrier.join();
      } catch (InterruptedException e) {
        throw new IllegalStateException(e);
      }
    }

    private void carry() {
      try {
        mayGo.acquireUninterruptibly();
        if (!abandoned) {
          answer = whole();
          paused.release();
        }
      } catch (Abandoned end) {
        // The model was closed while this strand was under way.
      }
    }

    private int whole() {
      try {
        run(script);
        ahead();
        state = 2;
        note(4, number, 0);
      } catch (Thrown t) {
        state = 3;
        died = t.value;
        note(5, number, t.value);
      }
      row.clear();
      return state;
    }

    private void pause(int said) {
      answer = said;
      paused.release();
      mayGo.acquireUninterruptibly();
      if (abandoned) {
        throw new Abandoned();
      }
    }

    private void ahead() throws Thrown {
      if (strength == 0 && !row.isEmpty()) {
        throw first();
      }
    }

    private Thrown first() {
      Entry e = row.remove(0);
      note(1, number, e.value);
      return new Thrown(e.value, e.limit);
    }

    private void waits() throws Thrown {
      if (strength == 1 && !row.isEmpty()) {
        throw first();
      }
      pause(4);
      ahead();
    }

    private void run(List<Script.Statement> body) throws Thrown {
      for (Script.Statement s : body) {
        ahead();
        act(s);
      }
    }

    /** Into a body, the turn being answered so there, and out of it on any way. */
    private void in(List<Script.Statement> body, int strong, int said) throws Thrown {
      int before = strength;
      depth++;
      strength = strong;
      try {
        pause(said);
        run(body);
      } finally {
        depth--;
        strength = before;
      }
    }

    private void act(Script.Statement s) throws Thrown {
      switch (s.kind) {
        case "=" -> {
          locals[s.letter] = s.exp.worked(locals);
          pause(0);
        }
        case "note" -> {
          note(0, number, s.exp.worked(locals));
          pause(0);
        }
        case "if" -> {
          List<Script.Statement> body = s.exp.worked(locals) != 0 ? s.a : s.b;
          if (body == null) {
            pause(0);
          } else {
            in(body, strength, 0);
          }
        }
        case "while" -> {
          while (s.exp.worked(locals) != 0) {
            in(s.a, strength, 0);
            ahead();
          }
          pause(0);
        }
        case "take" -> {
          while (boxes[s.number] == null) {
            waits();
          }
          locals[s.letter] = boxes[s.number];
          boxes[s.number] = null;
          pause(0);
        }
        case "put" -> {
          while (boxes[s.number] != null) {
            waits();
          }
          boxes[s.number] = s.exp.worked(locals);
          pause(0);
        }
        case "throw" -> throw new Thrown(s.exp.worked(locals), null);
        case "send" -> send(s);
        case "mask" -> in(s.a, Math.max(strength, 1), 0);
        case "hard" -> in(s.a, 2, 0);
        case "open" -> in(s.a, 0, 0);
        case "try" -> handled(s);
        case "first" -> undone(s);
        case "within" -> limited(s);
        default -> throw new IllegalStateException(s.kind);
      }
    }

    private void send(Script.Statement s) throws Thrown {
      Entry e = new Entry(number, s.exp.worked(locals), null);
      Strand target = strands[s.number];
      if (target == this) {
        throw new Thrown(e.value, null);
      }
      if (target.state == 1) {
        target.row.add(e);
      }
      try {
        while (target.row.contains(e)) {
          waits();
        }
      } finally {
        target.row.remove(e);
      }
      pause(0);
    }

    private void handled(Script.Statement s) throws Thrown {
      try {
        in(s.a, strength, 0);
      } catch (Thrown t) {
        if (t.limit != null) {
          throw t;
        }
        locals[s.letter] = t.value;
        in(s.b, Math.max(strength, 1), 1);
      }
    }

    private void undone(Script.Statement s) throws Thrown {
      int before = strength;
      int masked = Math.max(before, 1);
      in(s.a, masked, 0);
      depth++;
      Thrown kept = null;
      note(2, number, 0);
      try {
        run(s.b);
      } catch (Thrown t) {
        kept = t;
      }
      note(3, number, 0);
      strength = masked;
      try {
        if (kept != null) {
          held++;
          pause(1);
        }
        run(s.c);
      } finally {
        held -= kept != null ? 1 : 0;
        strength = before;
        depth--;
      }
      if (kept != null) {
        throw kept;
      }
    }

    private void limited(Script.Statement s) throws Thrown {
      Limit limit = new Limit(depth + 1, clock + s.number);
      limits.add(limit);
      boolean ranOut = false;
      try {
        in(s.a, strength, 0);
      } catch (Thrown t) {
        if (t.limit != limit) {
          throw t;
        }
        ranOut = true;
      } finally {
        limits.remove(limit);
        row.removeIf(e -> e.limit == limit);
      }
      if (ranOut && s.b == null) {
        pause(1);
      } else if (ranOut) {
        in(s.b, strength, 1);
      }
    }
  }
}
