/**
 * The power fails at every act of a transaction and then at every act of its recovery: after the
 * last recovery the words are all as before the transaction or all as after it.
 */
public final class FencedWordsCrashes {
  private static final long[] MASKS = {0, -1, 0x55555555L, 0xAAAAAAAAL, 1L << 32, 1L << 33, 3L << 32, 0x2F0F0F0F0L, 0x10F0F0F0FL};
  private static final int[] WORDS = {6, 7, 8, 9, 20};

  private static int wrong = 0;

  public static void main(String[] args) {
    for (int ending = 0; ending < 2; ending++) {
      int acts = actsOfTransaction(ending == 0);
      for (int act = 1; act <= acts; act++) {
        for (long mask : MASKS) {
          crashAndRecover(ending == 0, act, mask);
        }
      }
    }
    System.out.println(wrong == 0 ? "all transactions came through whole" : wrong + " answers are not as due");
    if (wrong != 0) {
      System.exit(1);
    }
  }

  private static FencedWords before() {
    FencedWords x = new FencedWords();
    x.begin();
    x.snapshot(6, 4);
    x.snapshot(20, 1);
    for (int a : WORDS) {
      x.store(a, 100 + a);
    }
    due("commit()", x.commit(), FencedWords.DONE);
    return x;
  }

  private static int transaction(FencedWords x, boolean commits) {
    x.begin();
    int answer = x.snapshot(6, 4);
    for (int a = 6; a < 10 && answer == FencedWords.DONE; a++) {
      answer = x.store(a, 150 + a);
    }
    answer = answer == FencedWords.DONE ? x.snapshot(8, 2) : answer;
    answer = answer == FencedWords.DONE ? x.snapshot(20, 1) : answer;
    for (int i = 0; i < WORDS.length && answer == FencedWords.DONE; i++) {
      answer = x.store(WORDS[i], 200 + WORDS[i]);
    }
    if (answer != FencedWords.DONE) {
      return answer;
    }
    return commits ? x.commit() : x.abort();
  }

  private static int actsOfTransaction(boolean commits) {
    FencedWords x = before();
    int start = x.meter();
    due("the transaction", transaction(x, commits), FencedWords.DONE);
    wholeOr(x, commits ? 200 : 100, commits ? 200 : 100, "without a loss");
    return x.meter() - start;
  }

  private static void crashAndRecover(boolean commits, int act, long mask) {
    // With second = 0 the recovery is let through; the meter tells how many acts it has.
    int most = 0;
    for (int second = 0; second <= most; second++) {
      for (long secondMask : MASKS) {
        FencedWords x = before();
        x.arm(act, mask);
        due("the transaction, armed with " + act, transaction(x, commits), FencedWords.LOST);
        due("on()", x.on() ? 1 : 0, 0);
        due("open()", x.open() ? 1 : 0, 0);
        int start = x.meter();
        x.arm(second, secondMask);
        due("recover(), armed with " + second, x.recover(), second == 0 ? FencedWords.DONE : FencedWords.LOST);
        if (second == 0) {
          most = x.meter() - start;
        } else {
          due("recover() at last", x.recover(), FencedWords.DONE);
        }
        due("records()", x.records(), 0);
        due("taken()", x.taken(), 0);
        wholeOr(x, 100, commits ? 200 : 100, "lost at act " + act + ", then at " + second);
      }
    }
  }

  private static void wholeOr(FencedWords x, long base, long otherBase, String when) {
    long found = x.seen(WORDS[0]) - WORDS[0];
    if (found != base && found != otherBase) {
      due("seen(6) " + when, found, base);
    }
    for (int a : WORDS) {
      due("seen(" + a + ") " + when, x.seen(a), found + a);
      due("kept(" + a + ") " + when, x.kept(a), found + a);
    }
  }

  private static void due(String call, long got, long want) {
    if (got != want) {
      wrong++;
      System.out.println(call + " answered " + got + ", due is " + want);
    }
  }
}
