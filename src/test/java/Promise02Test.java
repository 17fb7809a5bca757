/** Promise 2, feed: the order of bytes, and a tape that is full. */
public final class Promise02Test {
  private static final Bench BENCH = new Bench("Promise 2");
  private static final int BLANKS = 0x20202020;

  public static void main(String[] args) {
    twentyInOrder();
    wholeBytes();
    howMany();
    exactly800();
    noneComesBeyond();
    sevenHundredEightyOne();
    againAfterAText();
    BENCH.close();
  }

  /** Twenty blanks, but for one byte. */
  private static int feedOne(Lasting x, int at, int b) {
    int[] five = {BLANKS, BLANKS, BLANKS, BLANKS, BLANKS};
    int shift = 24 - 8 * (at % 4);
    five[at / 4] = five[at / 4] & ~(255 << shift) | b << shift;
    return x.feed(five[0], five[1], five[2], five[3], five[4]);
  }

  private static void twentyInOrder() {
    BENCH.sentence("Twenty bytes come to the tape, the first number's highest one first");
    for (int at = 0; at < 20; at++) {
      Lasting x = new Lasting();
      BENCH.due("feed", feedOne(x, at, '!'), 20);
      BENCH.due("text()", x.text(), -2);
      BENCH.due("place() of the one at " + at, x.place(), at);
      Lasting y = new Lasting();
      Bench.feedAll(y, ' ');
      feedOne(y, at, '!');
      y.text();
      BENCH.due("place() of the one at 20 + " + at, y.place(), 20 + at);
    }
  }

  private static void wholeBytes() {
    BENCH.sentence("a byte is 0 .. 255, also where a number is less than nought");
    for (int b = 0; b < 256; b++) {
      boolean blank = b == 32 || b == 10;
      boolean local = b >= 'q' && b <= 'z';
      for (int at = 8; at < 12; at++) {
        Lasting x = new Lasting();
        feedOne(x, at, b);
        BENCH.due("text() of byte " + b + " at " + at, x.text(), blank ? 0 : -2);
        BENCH.due("place() of byte " + b + " at " + at, x.place(), blank ? -1 : local ? 20 : at);
      }
    }
  }

  private static void howMany() {
    BENCH.sentence("how many it has");
    Lasting x = new Lasting();
    for (int n = 20; n <= 800; n += 20) {
      BENCH.due("feed", Bench.feedAll(x, ' '), n);
    }
    Lasting y = new Lasting();
    Bench.feedAll(y, ' ');
    y.end(7);
    BENCH.due("feed behind 7", Bench.feedAll(y, ' '), 27);
  }

  private static Lasting taped(int n) {
    Lasting x = new Lasting();
    for (int i = 0; i < 40; i++) {
      Bench.feedAll(x, ' ');
    }
    if (n < 800) {
      x.end(n - 780);
    }
    return x;
  }

  private static void exactly800() {
    BENCH.sentence("800 are not more than 800");
    Lasting x = taped(780);
    BENCH.due("feed at 780", feedOne(x, 19, '!'), 800);
    x.text();
    BENCH.due("place() of byte 799", x.place(), 799);
  }

  private static void noneComesBeyond() {
    BENCH.sentence("NONE (none comes): it would have more than 800");
    Lasting x = taped(800);
    BENCH.due("feed at 800", Bench.feedAll(x, '!'), -1);
    BENCH.due("feed again", Bench.feedAll(x, '!'), -1);
    BENCH.due("end(20) tells how many there are", x.end(20), 800);
    BENCH.due("text() without the refused", x.text(), 0);
    BENCH.due("place()", x.place(), -1);
  }

  private static void sevenHundredEightyOne() {
    BENCH.sentence("it would have more than 800, from 781 on");
    for (int n = 781; n <= 799; n++) {
      Lasting x = taped(n);
      BENCH.due("feed at " + n, Bench.feedAll(x, '!'), -1);
      BENCH.due("end(20) tells how many there are", x.end(20), n);
      BENCH.due("text()", x.text(), 0);
    }
    Lasting x = taped(800);
    Bench.feedAll(x, '!');
    BENCH.due("end(0)", x.end(0), 780);
    BENCH.due("feed, there being room again", Bench.feedAll(x, ' '), 800);
  }

  private static void againAfterAText() {
    BENCH.sentence("a tape that text() took is empty, and takes 800 again");
    Lasting x = taped(800);
    x.text();
    for (int n = 20; n <= 800; n += 20) {
      BENCH.due("feed", Bench.feedAll(x, ' '), n);
    }
    BENCH.due("feed at 800", Bench.feedAll(x, ' '), -1);
  }
}
