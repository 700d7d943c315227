/** What the tests share: the answers that are due, and the end of a test's main. */
final class Due {
  static final int BEYOND = -1000000001;
  static final int NONE = -1000000002;
  static final int STATE = -1000000003;
  static final int FULL = -1000000004;
  static final int KIND = -1000000005;
  static final int PARTED = -1000000006;
  static final int[] WRONG_INTS = {-1, Integer.MIN_VALUE, Integer.MAX_VALUE};

  private static int asked = 0;
  private static int wrong = 0;

  private Due() {}

  static void is(String call, long got, long want) {
    asked++;
    if (got != want) {
      wrong++;
      if (wrong <= 50) {
        System.out.println(call + " answered " + got + ", due is " + want);
      }
    }
  }

  static void end(String test) {
    System.out.println(test + ": " + asked + " asked, " + wrong + " not as due");
    if (wrong != 0 || asked == 0) {
      System.exit(1);
    }
  }

  /** Puts the signs of a text on the tape, eight at a time. */
  static void feed(NineBreakages x, String text) {
    for (int from = 0; from < text.length(); from += 8) {
      int n = Math.min(8, text.length() - from);
      long word = 0;
      for (int i = 0; i < n; i++) {
        word |= (long) text.charAt(from + i) << (8 * i);
      }
      x.feed(word, n);
    }
  }

  /** Lets days go by till a day; an object has 512 calls in all, so none is spent on asking for the day again. */
  static NineBreakages onDay(int day, NineBreakages x) {
    int now = x.count(2);
    while (now < day) {
      now = x.days(Math.min(60, day - now));
    }
    return x;
  }

  static int text(NineBreakages x, int use, String text) {
    feed(x, text);
    return x.text(use);
  }
}
