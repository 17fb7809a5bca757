import java.util.ArrayList;
import java.util.List;
import java.util.function.Consumer;

/**
 * A MaskedThrows that may be asked for more than the 512 calls that one object is promised for:
 * ahead of the next one it is replaced by a new object that the same changes bring to where it was.
 */
final class Lasting {
  private static final int MOST_CALLS = 512;

  private final List<Consumer<MaskedThrows>> changes = new ArrayList<>();
  private MaskedThrows now = new MaskedThrows();
  private int calls;

  private MaskedThrows asked() {
    if (calls == MOST_CALLS) {
      renew();
    }
    calls++;
    return now;
  }

  private MaskedThrows changed(Consumer<MaskedThrows> change) {
    MaskedThrows x = asked();
    changes.add(change);
    return x;
  }

  private void renew() {
    if (changes.size() >= MOST_CALLS) {
      throw new IllegalStateException("a test that changes one object more than 512 times");
    }
    now = new MaskedThrows();
    for (Consumer<MaskedThrows> change : changes) {
      change.accept(now);
    }
    calls = changes.size();
  }

  int feed(int a, int b, int c, int d, int e) {
    return changed(x -> x.feed(a, b, c, d, e)).feed(a, b, c, d, e);
  }

  int end(int n) {
    return changed(x -> x.end(n)).end(n);
  }

  int text() {
    return changed(MaskedThrows::text).text();
  }

  int start(int thread, int program) {
    return changed(x -> x.start(thread, program)).start(thread, program);
  }

  int turn(int thread) {
    return changed(x -> x.turn(thread)).turn(thread);
  }

  int play(long seed, int n) {
    return changed(x -> x.play(seed, n)).play(seed, n);
  }

  int hurl(int thread, long v) {
    return changed(x -> x.hurl(thread, v)).hurl(thread, v);
  }

  int fill(int box, long v) {
    return changed(x -> x.fill(box, v)).fill(box, v);
  }

  int clear() {
    return changed(MaskedThrows::clear).clear();
  }

  int place() {
    return asked().place();
  }

  int told(int program, int what) {
    return asked().told(program, what);
  }

  int full(int box) {
    return asked().full(box);
  }

  long box(int box) {
    return asked().box(box);
  }

  int thread(int thread, int what) {
    return asked().thread(thread, what);
  }

  long died(int thread) {
    return asked().died(thread);
  }

  long local(int thread, int letter) {
    return asked().local(thread, letter);
  }

  int row(int thread, int i, int what) {
    return asked().row(thread, i, what);
  }

  long value(int thread, int i) {
    return asked().value(thread, i);
  }

  int stuck() {
    return asked().stuck();
  }

  int clock() {
    return asked().clock();
  }

  int notes() {
    return asked().notes();
  }

  int note(int i, int what) {
    return asked().note(i, what);
  }

  long noted(int i) {
    return asked().noted(i);
  }
}
