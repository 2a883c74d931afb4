/** The sentences under 'What it is' and 'Terms' that name a boundary case, each with a test of its own. */
public final class FencedWordsTermEdges {
  private static final int DONE = Sentences.DONE, REFUSED = Sentences.REFUSED, LOST = Sentences.LOST;
  private static final long WORD_BITS = Sentences.WORD_BITS;
  private static final long BIT_32 = Sentences.BIT_32;
  private static final long BIT_33 = Sentences.BIT_33;

  public static void main(String[] args) {
    recoveryThatLosesPower();
    manyDearCalls();
    manyLosses();
    words();
    lines();
    zeroAtFirst();
    oldestFirst();
    countOfARecord();
    oldValuesOfARecord();
    cellsOfARecord();
    cellsOfTheLog();
    storeIsAnAct();
    flushIsAnAct();
    fenceIsAnAct();
    fenceLeavesLinesThatWereNotFlushed();
    appendingActs();
    recordIsWritten();
    recordIsKept();
    clearingActs();
    recordsAreCrossedOut();
    recordsAreGone();
    powerIsOnAtFirst();
    failsAfterTheNthAct();
    failsInWhateverCall();
    nothingMoreOfTheCall();
    bitsOfTheWords();
    wordsThatAreKeptAlready();
    bitOfTheWrittenRecord();
    recordThatOutlivedALoss();
    unwrittenRecordIsGone();
    bitOfCrossedOutRecords();
    keptRecordsStay();
    otherBitsMeanNothing();
    powerIsOffThen();
    noTransactionIsOpenThen();
    noLineIsFlushedThen();
    notArmedThen();
    undoesTheNewestFirst();
    undoesTheFirstWordFirst();
    undoFlushesEachLineOnce();
    undoFences();
    undoClearsTheLog();
    undoOfNoRecord();
    coveredWords();
    coveredBySomeRecord();
    coveredByNoRecordAnyMore();
    Sentences.end();
  }

  private static void says(String words) {
    Sentences.says(words);
  }

  private static void due(String call, long got, long want) {
    Sentences.due(call, got, want);
  }

  private static void due(String call, boolean got, boolean want) {
    Sentences.due(call, got, want);
  }

  private static FencedWords opened() {
    return Sentences.opened();
  }

  // What it is

  private static void recoveryThatLosesPower() {
    says("a recovery that may itself lose power puts back what no commit had finished");
    // A flush and a fence, then the log is being cleared: the commit is not finished.
    for (int act = 3; act <= 4; act++) {
      // Two stores, a flush and a fence of the recovery, then it crosses out anew.
      for (int second = 1; second <= 4; second++) {
        FencedWords x = Sentences.filled(0, 2, 10);
        x.begin();
        x.snapshot(0, 2);
        x.store(0, 20);
        x.store(1, 21);
        x.arm(act, ~BIT_33);
        due("commit()", x.commit(), LOST);
        due("kept(0)", x.kept(0), 20);
        x.arm(second, 1 | BIT_33);
        due("recover() lost at act " + second, x.recover(), LOST);
        due("kept(0) after act " + second, x.kept(0), 10);
        due("kept(1) after act " + second, x.kept(1), second < 4 ? 21 : 11);
        due("records() after act " + second, x.records(), 1);
        due("recover()", x.recover(), DONE);
        due("seen(0)", x.seen(0), 10);
        due("seen(1)", x.seen(1), 11);
      }
    }
  }

  private static void manyDearCalls() {
    says("An object is used for at most 512 calls after it has been made");
    FencedWords x = new FencedWords();
    int calls = 0;
    for (int round = 1; round <= 72; round++) {
      due("begin()", x.begin(), DONE);
      for (int a = 0; a < 32; a += 8) {
        due("snapshot(" + a + ", 8)", x.snapshot(a, 8), DONE);
      }
      due("snapshot(29, 3)", x.snapshot(29, 3), DONE);
      due("abort()", x.abort(), DONE);
      calls += 7;
    }
    due("calls so far", calls, 504);
    due("arm(12, 0)", x.arm(12, 0), true);
    due("begin()", x.begin(), DONE);
    due("snapshot(0, 8)", x.snapshot(0, 8), LOST);
    due("records()", x.records(), 1);
    due("recover()", x.recover(), DONE);
    due("begin()", x.begin(), DONE);
    due("commit()", x.commit(), DONE);
    // A round appends five records with 55 acts and undoes them with 35 + 4 + 1 + 3.
    due("meter(), the 512th call", x.meter(), 72 * (55 + 43) + 12 + 8 + 1 + 1 + 3);
  }

  private static void manyLosses() {
    says("An object is used for at most 512 calls after it has been made; what later calls answer is free");
    FencedWords x = opened();
    due("snapshot(0, 8)", x.snapshot(0, 8), DONE);
    due("arm(1, 1)", x.arm(1, 1), true);
    due("store(0, 5)", x.store(0, 5), LOST);
    for (int call = 5; call < 511; call += 2) {
      due("arm(9, 0)", x.arm(9, 0), true);
      due("recover(), call " + (call + 1), x.recover(), LOST);
    }
    due("recover(), call 511", x.recover(), DONE);
    due("meter(), the 512th call", x.meter(), 12 + 1 + 253 * 9 + 8 + 1 + 1 + 3);
  }

  // Terms: words, lines, records and cells

  private static void words() {
    says("WORDS are 0 .. 31");
    for (int a = 0; a <= 31; a += 31) {
      FencedWords x = opened();
      due("snapshot(" + a + ", 1)", x.snapshot(a, 1), DONE);
      due("store(" + a + ", 7)", x.store(a, 7), DONE);
      due("commit()", x.commit(), DONE);
      due("seen(" + a + ")", x.seen(a), 7);
      due("kept(" + a + ")", x.kept(a), 7);
    }
    for (int a : Sentences.NO_WORDS) {
      FencedWords x = Sentences.full();
      due("begin()", x.begin(), DONE);
      due("snapshot(0, 8)", x.snapshot(0, 8), DONE);
      due("snapshot(24, 8)", x.snapshot(24, 8), DONE);
      due("snapshot(" + a + ", 1)", x.snapshot(a, 1), REFUSED);
      due("store(" + a + ", 7)", x.store(a, 7), REFUSED);
      due("seen(" + a + ")", x.seen(a), 0);
      due("kept(" + a + ")", x.kept(a), 0);
    }
  }

  private static void lines() {
    says("LINE l has the words 8 l .. 8 l + 7");
    for (int a = 0; a < 32; a++) {
      for (int b = 0; b < 32; b++) {
        FencedWords x = opened();
        x.snapshot(a, 1);
        x.snapshot(b, 1);
        x.store(a, 1);
        x.store(b, 2);
        due("commit()", x.commit(), DONE);
        int flushes = a / 8 == b / 8 ? 1 : 2;
        due("meter() with words " + a + " and " + b, x.meter(), 5 + 5 + 2 + flushes + 1 + 3);
      }
    }
  }

  private static void zeroAtFirst() {
    says("all are 0 at first");
    FencedWords other = Sentences.full();
    FencedWords x = new FencedWords();
    for (int a = 0; a < 32; a++) {
      due("seen(" + a + ")", x.seen(a), 0);
      due("kept(" + a + ")", x.kept(a), 0);
      due("kept(" + a + ") of another object", other.kept(a), a + 100);
    }
  }

  private static void oldestFirst() {
    says("The LOG has RECORDS, the oldest first");
    for (int left = 0; left < 20; left++) {
      FencedWords x = opened();
      for (int i = 0; i < 20; i++) {
        due("snapshot(3, 1)", x.snapshot(3, 1), DONE);
        due("store(3, " + (i + 1) + ")", x.store(3, i + 1), DONE);
      }
      // The newest record has the old value 19, the oldest 0.
      x.arm(20 - left, WORD_BITS);
      due("abort()", x.abort(), LOST);
      due("kept(3) with " + left + " records left to undo", x.kept(3), left);
    }
  }

  private static void countOfARecord() {
    says("a count n (1 .. 8)");
    for (int n = -9; n <= 17; n++) {
      FencedWords x = opened();
      boolean fits = n >= 1 && n <= 8;
      due("snapshot(0, " + n + ")", x.snapshot(0, n), fits ? DONE : REFUSED);
      due("records()", x.records(), fits ? 1 : 0);
    }
  }

  private static void oldValuesOfARecord() {
    says("n OLD values, of the words a .. a + n - 1");
    for (int n = 1; n <= 8; n++) {
      for (int a = 0; a + n <= 32; a++) {
        FencedWords x = Sentences.full();
        x.begin();
        int from = Math.max(0, a - 1);
        int to = Math.min(31, a + n);
        // Three records cover the words and their neighbours, so that all can be stored to.
        for (int i = 0; i < 3; i++) {
          due("snapshot to cover", x.snapshot(Math.min(from, 8) + 8 * i, 8), DONE);
        }
        for (int w = from; w <= to; w++) {
          due("store(" + w + ")", x.store(w, -1 - w), DONE);
        }
        due("snapshot(" + a + ", " + n + ")", x.snapshot(a, n), DONE);
        for (int w = a; w < a + n; w++) {
          due("store(" + w + ")", x.store(w, 7), DONE);
        }
        // As many acts as the newest record has words: its old values alone are put back.
        x.arm(n, WORD_BITS);
        due("abort()", x.abort(), LOST);
        for (int w = from; w <= to; w++) {
          due("kept(" + w + ") with a record of " + n + " words from " + a, x.kept(w), -1 - w);
        }
      }
    }
  }

  private static void cellsOfARecord() {
    says("It takes n + 1 CELLS");
    for (int n = 1; n <= 8; n++) {
      FencedWords x = opened();
      due("taken() before", x.taken(), 0);
      due("snapshot(0, " + n + ")", x.snapshot(0, n), DONE);
      due("taken()", x.taken(), n + 1);
      due("snapshot(32 - n, " + n + ")", x.snapshot(32 - n, n), DONE);
      due("taken()", x.taken(), 2 * (n + 1));
    }
  }

  private static void cellsOfTheLog() {
    says("the log has 40");
    for (int n = 1; n <= 8; n++) {
      FencedWords x = opened();
      int fit = 40 / (n + 1);
      for (int i = 0; i < fit; i++) {
        due("snapshot(0, " + n + "), record " + (i + 1), x.snapshot(0, n), DONE);
      }
      int left = 40 - fit * (n + 1);
      due("snapshot(0, " + n + ") with " + left + " cells left", x.snapshot(0, n), REFUSED);
      if (left >= 2) {
        due("snapshot(0, " + (left - 1) + ") with " + left + " cells left", x.snapshot(0, left - 1), DONE);
        due("taken()", x.taken(), 40);
      }
      due("snapshot(0, 1) at last", x.snapshot(0, 1), REFUSED);
      due("taken()", x.taken(), left == 1 ? 39 : 40);
    }
  }

  // Terms: acts

  private static void storeIsAnAct() {
    says("STORE of a value to a word (1 act): its seen value becomes this");
    long[] values = {1, 0, -1, Long.MAX_VALUE, Long.MIN_VALUE, BIT_32, BIT_32 - 1};
    FencedWords x = opened();
    x.snapshot(31, 1);
    for (int i = 0; i < values.length; i++) {
      due("store(31, " + values[i] + ")", x.store(31, values[i]), DONE);
      due("seen(31)", x.seen(31), values[i]);
      due("kept(31)", x.kept(31), 0);
      due("meter()", x.meter(), 5 + i + 1);
    }
  }

  /** A store to the first and the last word of each line of the set; 12 acts for each line of the log and 2 for a stored one. */
  private static FencedWords storedToLines(int lines) {
    FencedWords x = opened();
    for (int line = 0; line < 4; line++) {
      x.snapshot(8 * line, 8);
      if ((lines >> line & 1) != 0) {
        due("store", x.store(8 * line, line + 1), DONE);
        due("store", x.store(8 * line + 7, -line - 1), DONE);
      }
    }
    return x;
  }

  private static void flushIsAnAct() {
    says("FLUSH of a line (1 act)");
    for (int lines = 1; lines < 16; lines++) {
      int flushes = Integer.bitCount(lines);
      FencedWords x = storedToLines(lines);
      int before = x.meter();
      // The power fails after the last flush, before the fence: nothing is safe yet.
      x.arm(flushes, 0);
      due("commit()", x.commit(), LOST);
      due("meter()", x.meter(), before + flushes);
      for (int line = 0; line < 4; line++) {
        due("kept(" + 8 * line + ") after the flushes", x.kept(8 * line), 0);
        due("kept(" + (8 * line + 7) + ") after the flushes", x.kept(8 * line + 7), 0);
      }
    }
  }

  private static void fenceIsAnAct() {
    says("FENCE (1 act): for every line that was flushed since the latest fence, the kept values of its words become the seen ones");
    for (int lines = 1; lines < 16; lines++) {
      int flushes = Integer.bitCount(lines);
      FencedWords x = storedToLines(lines);
      int before = x.meter();
      x.arm(flushes + 1, 0);
      due("commit()", x.commit(), LOST);
      due("meter()", x.meter(), before + flushes + 1);
      for (int line = 0; line < 4; line++) {
        long want = (lines >> line & 1) != 0 ? line + 1 : 0;
        due("kept(" + 8 * line + ") after the fence", x.kept(8 * line), want);
        due("kept(" + (8 * line + 7) + ") after the fence", x.kept(8 * line + 7), -want);
      }
    }
  }

  private static void fenceLeavesLinesThatWereNotFlushed() {
    says("for every line that was flushed since the latest fence");
    // The line was flushed in an earlier transaction, and a fence came after.
    FencedWords x = Sentences.filled(0, 8, 50);
    x.begin();
    x.snapshot(0, 2);
    x.store(0, 1);
    x.store(1, 2);
    due("snapshot(2, 1), the last act of which is a fence", x.snapshot(2, 1), DONE);
    due("kept(0)", x.kept(0), 50);
    due("kept(1)", x.kept(1), 51);
    x.arm(5, 0);
    due("snapshot(2, 1), lost with its fence", x.snapshot(2, 1), LOST);
    due("kept(0)", x.kept(0), 50);
    due("kept(1)", x.kept(1), 51);
  }

  private static void appendingActs() {
    says("APPENDING a record of n words (n + 4 acts)");
    for (int n = 1; n <= 8; n++) {
      FencedWords x = opened();
      due("snapshot(0, " + n + ")", x.snapshot(0, n), DONE);
      due("meter()", x.meter(), n + 4);
    }
  }

  /** A record of n words is appended to one of word 31, with a loss at the act; how many records are left. */
  private static int recordsAfterLoss(int n, int act, long mask) {
    FencedWords x = opened();
    x.snapshot(31, 1);
    x.arm(act, mask);
    due("snapshot(0, " + n + ") lost at act " + act, x.snapshot(0, n), LOST);
    due("taken()", x.taken(), x.records() == 2 ? 2 + n + 1 : 2);
    return x.records();
  }

  private static void recordIsWritten() {
    says("the record is WRITTEN with act n + 2");
    for (int n = 1; n <= 8; n++) {
      due("records() after act n + 1, n = " + n, recordsAfterLoss(n, n + 1, BIT_32), 1);
      due("records() after act n + 2, n = " + n, recordsAfterLoss(n, n + 2, BIT_32), 2);
      due("records() after act n + 3, n = " + n, recordsAfterLoss(n, n + 3, BIT_32), 2);
    }
  }

  private static void recordIsKept() {
    says("and KEPT with act n + 4, which is a fence too");
    for (int n = 1; n <= 8; n++) {
      due("records() after act n + 2, n = " + n, recordsAfterLoss(n, n + 2, 0), 1);
      due("records() after act n + 3, n = " + n, recordsAfterLoss(n, n + 3, 0), 1);
      due("records() after act n + 4, n = " + n, recordsAfterLoss(n, n + 4, 0), 2);
    }
  }

  private static void clearingActs() {
    says("CLEARING the log (3 acts)");
    for (int count = 1; count <= 20; count++) {
      FencedWords x = logOf(count);
      due("commit()", x.commit(), DONE);
      due("meter() with " + count + " records", x.meter(), 5 * count + 3);
      due("records()", x.records(), 0);
      due("taken()", x.taken(), 0);
    }
  }

  private static FencedWords logOf(int count) {
    FencedWords x = opened();
    for (int i = 0; i < count; i++) {
      due("snapshot(" + i + ", 1)", x.snapshot(i, 1), DONE);
    }
    return x;
  }

  private static void clearingLostAt(int act, long mask, int count, int left) {
    FencedWords x = logOf(count);
    x.store(0, 1);
    // A flush and a fence come before the log is cleared.
    x.arm(2 + act, mask);
    due("commit()", x.commit(), LOST);
    due("records() of " + count + " after act " + act + " of clearing", x.records(), left);
    due("taken() of " + count + " after act " + act + " of clearing", x.taken(), 2 * left);
  }

  private static void recordsAreCrossedOut() {
    says("all its records are CROSSED OUT with act 1");
    for (int count = 1; count <= 20; count++) {
      clearingLostAt(0, BIT_33, count, count);
      clearingLostAt(1, BIT_33, count, 0);
      clearingLostAt(1, 0, count, count);
      clearingLostAt(2, BIT_33, count, 0);
    }
  }

  private static void recordsAreGone() {
    says("and gone with act 3, which is a fence too");
    for (int count = 1; count <= 20; count++) {
      clearingLostAt(2, 0, count, count);
      clearingLostAt(3, 0, count, 0);
      clearingLostAt(3, BIT_33, count, 0);
    }
  }

  // Terms: the power

  private static void powerIsOnAtFirst() {
    says("POWER is on at first");
    FencedWords x = new FencedWords();
    due("on()", x.on(), true);
    due("recover()", x.recover(), REFUSED);
    due("begin()", x.begin(), DONE);
  }

  private static void failsAfterTheNthAct() {
    says("it fails then directly after the n-th act from now on is done");
    for (int n = 1; n <= 20; n++) {
      FencedWords x = opened();
      x.snapshot(0, 1);
      x.store(0, 99);
      due("arm(" + n + ", 1)", x.arm(n, 1), true);
      for (int i = 1; i < n; i++) {
        due("store(0, " + i + ")", x.store(0, i), DONE);
        due("on()", x.on(), true);
      }
      due("store(0, " + n + "), the last before the loss", x.store(0, n), LOST);
      due("on()", x.on(), false);
      due("meter()", x.meter(), 6 + n);
      due("kept(0): the act was done", x.kept(0), n);
    }
  }

  private static void failsInWhateverCall() {
    says("in whatever call that is");
    for (int n = 1; n <= 13; n++) {
      FencedWords x = opened();
      x.arm(n, 0);
      due("snapshot(0, 8), armed with " + n, x.snapshot(0, 8), n <= 12 ? LOST : DONE);
    }
    for (int n = 1; n <= 2; n++) {
      FencedWords x = logOf(1);
      x.arm(n, 0);
      due("store(0, 1), armed with " + n, x.store(0, 1), n == 1 ? LOST : DONE);
    }
    for (int n = 1; n <= 6; n++) {
      FencedWords x = logOf(1);
      x.store(0, 1);
      x.arm(n, 0);
      due("commit(), armed with " + n, x.commit(), n <= 5 ? LOST : DONE);
    }
    for (int n = 1; n <= 7; n++) {
      FencedWords x = logOf(1);
      x.arm(n, 0);
      due("abort(), armed with " + n, x.abort(), n <= 6 ? LOST : DONE);
    }
    for (int n = 1; n <= 7; n++) {
      FencedWords x = Sentences.offWithRecord();
      x.arm(n, 0);
      due("recover(), armed with " + n, x.recover(), n <= 6 ? LOST : DONE);
    }
  }

  private static void nothingMoreOfTheCall() {
    says("nothing more of this call is done, and the call answers LOST");
    // Three stores, a flush, a fence, three acts of clearing.
    for (int act = 1; act <= 8; act++) {
      FencedWords x = Sentences.filled(0, 3, 10);
      x.begin();
      x.snapshot(0, 3);
      for (int a = 0; a < 3; a++) {
        x.store(a, 20 + a);
      }
      int before = x.meter();
      x.arm(act, WORD_BITS);
      due("abort() lost at act " + act, x.abort(), LOST);
      due("meter()", x.meter(), before + act);
      for (int a = 0; a < 3; a++) {
        due("kept(" + a + ") after act " + act, x.kept(a), act > a ? 10 + a : 20 + a);
      }
      due("records() after act " + act, x.records(), act < 8 ? 1 : 0);
    }
  }

  private static FencedWords storedToAllWords() {
    FencedWords x = Sentences.full();
    x.begin();
    for (int a = 0; a < 32; a += 8) {
      x.snapshot(a, 8);
    }
    for (int a = 0; a < 32; a++) {
      x.store(a, -a - 1);
    }
    return x;
  }

  private static void bitsOfTheWords() {
    says("the kept value becomes the seen one if bit w of the mask (w the word; bit 0 the lowest) is 1");
    for (int w = 0; w < 32; w++) {
      for (int other = 0; other < 2; other++) {
        FencedWords x = storedToAllWords();
        long mask = other == 0 ? 1L << w : ~(1L << w);
        x.arm(1, mask);
        due("snapshot(0, 1)", x.snapshot(0, 1), LOST);
        for (int a = 0; a < 32; a++) {
          boolean comesThrough = a == w ^ other == 1;
          due("kept(" + a + ") with mask " + mask, x.kept(a), comesThrough ? -a - 1 : a + 100);
        }
      }
    }
  }

  private static void wordsThatAreKeptAlready() {
    says("for every word whose seen value is not the kept one");
    FencedWords x = Sentences.full();
    x.begin();
    x.snapshot(8, 1);
    x.store(8, 1);
    x.store(8, 108);
    x.arm(1, -1);
    due("snapshot(0, 1)", x.snapshot(0, 1), LOST);
    for (int a = 0; a < 32; a++) {
      due("kept(" + a + ")", x.kept(a), a + 100);
    }
  }

  private static void bitOfTheWrittenRecord() {
    says("a record that is written and not kept outlives if bit 32 is 1, and otherwise is gone");
    for (int act = 5; act <= 6; act++) {
      due("records(), bit 32 alone", recordsAfterLoss(3, act, BIT_32), 2);
      due("records(), all bits", recordsAfterLoss(3, act, -1), 2);
      due("records(), no bit", recordsAfterLoss(3, act, 0), 1);
      due("records(), all bits but 32", recordsAfterLoss(3, act, ~BIT_32), 1);
    }
    // It outlives with its old values, which are those that were seen when it was written.
    FencedWords x = Sentences.filled(4, 2, 40);
    x.begin();
    x.arm(4, BIT_32);
    due("snapshot(4, 2)", x.snapshot(4, 2), LOST);
    due("recover()", x.recover(), DONE);
    due("seen(4)", x.seen(4), 40);
    due("seen(5)", x.seen(5), 41);
  }

  private static void recordThatOutlivedALoss() {
    says("a record that is written and not kept outlives if bit 32 is 1 (and has outlived for good)");
    for (int act = 3; act <= 4; act++) {
      FencedWords x = opened();
      x.snapshot(8, 1);
      x.arm(act, BIT_32);
      due("snapshot(0, 1) lost at act " + act, x.snapshot(0, 1), LOST);
      x.arm(1, 0);
      due("recover()", x.recover(), LOST);
      due("records() after the second loss", x.records(), 2);
      due("recover()", x.recover(), DONE);
      // Neither of the two losses is left over for the next one.
      x.begin();
      x.snapshot(8, 1);
      x.arm(1, 0);
      due("snapshot(0, 1) lost at act 1", x.snapshot(0, 1), LOST);
      due("records()", x.records(), 1);
    }
  }

  private static void unwrittenRecordIsGone() {
    says("one that is not written yet is gone");
    for (int n = 1; n <= 8; n++) {
      for (int act = 1; act <= n + 1; act++) {
        due("records() after act " + act + ", n = " + n, recordsAfterLoss(n, act, -1), 1);
      }
    }
  }

  private static void bitOfCrossedOutRecords() {
    says("records that are crossed out and not gone are gone if bit 33 is 1, and otherwise stay");
    for (int act = 1; act <= 2; act++) {
      clearingLostAt(act, BIT_33, 3, 0);
      clearingLostAt(act, -1, 3, 0);
      clearingLostAt(act, 0, 3, 3);
      clearingLostAt(act, ~BIT_33, 3, 3);
    }
  }

  private static void keptRecordsStay() {
    says("records that are crossed out and not gone");
    for (long mask : new long[] {0, -1, BIT_32, BIT_33, ~BIT_32, ~BIT_33}) {
      FencedWords x = logOf(20);
      x.arm(1, mask);
      due("store(19, 1)", x.store(19, 1), LOST);
      due("records() with mask " + mask, x.records(), 20);
      due("taken() with mask " + mask, x.taken(), 40);
    }
    // Those that were crossed out before are gone: the new ones are not.
    for (int ending = 0; ending < 3; ending++) {
      FencedWords x = afterATransaction(ending);
      x.begin();
      x.snapshot(0, 1);
      x.arm(1, BIT_33);
      due("store(0, 1)", x.store(0, 1), LOST);
      due("records() after ending " + ending, x.records(), 1);
    }
  }

  /** A transaction with a record of word 0 ended: 0 by commit, 1 by abort, 2 by a loss and recovery. */
  private static FencedWords afterATransaction(int ending) {
    FencedWords x = logOf(1);
    if (ending == 0) {
      due("commit()", x.commit(), DONE);
    } else if (ending == 1) {
      due("abort()", x.abort(), DONE);
    } else {
      x.arm(1, 0);
      due("store(0, 1)", x.store(0, 1), LOST);
      due("recover()", x.recover(), DONE);
    }
    return x;
  }

  private static void otherBitsMeanNothing() {
    says("bit w of the mask (w the word; bit 0 the lowest)");
    for (int bit = 34; bit < 64; bit++) {
      FencedWords x = storedToAllWords();
      x.arm(1, 1L << bit);
      due("store(0, 1)", x.store(0, 1), LOST);
      for (int a = 0; a < 32; a++) {
        due("kept(" + a + ") with bit " + bit, x.kept(a), a + 100);
      }
      due("records() with bit " + bit, recordsAfterLoss(1, 3, 1L << bit), 1);
      clearingLostAt(1, 1L << bit, 2, 2);
    }
  }

  private static void powerIsOffThen() {
    says("Then the power is off");
    FencedWords x = Sentences.off();
    due("on()", x.on(), false);
    due("begin()", x.begin(), REFUSED);
    due("snapshot(0, 1)", x.snapshot(0, 1), REFUSED);
    due("store(0, 1)", x.store(0, 1), REFUSED);
    due("commit()", x.commit(), REFUSED);
    due("abort()", x.abort(), REFUSED);
    due("recover()", x.recover(), DONE);
  }

  private static void noTransactionIsOpenThen() {
    says("no transaction is OPEN");
    for (int call = 0; call < 4; call++) {
      FencedWords x = logOf(1);
      x.arm(1, 0);
      long answer = call == 0 ? x.snapshot(0, 1) : call == 1 ? x.store(0, 1) : call == 2 ? x.commit() : x.abort();
      due("call " + call, answer, LOST);
      due("open() after call " + call, x.open(), false);
      due("recover()", x.recover(), DONE);
      due("open() after recover", x.open(), false);
      due("store(0, 1)", x.store(0, 1), REFUSED);
      due("begin()", x.begin(), DONE);
    }
  }

  private static void noLineIsFlushedThen() {
    says("lines that were flushed are so no more");
    FencedWords x = Sentences.filled(0, 1, 10);
    x.begin();
    x.snapshot(0, 1);
    x.store(0, 20);
    x.arm(1, 0);
    due("commit(), lost after the flush", x.commit(), LOST);
    due("recover()", x.recover(), DONE);
    due("kept(0)", x.kept(0), 10);
    x.begin();
    x.snapshot(0, 1);
    x.store(0, 30);
    due("snapshot(1, 1), with its fence", x.snapshot(1, 1), DONE);
    due("kept(0)", x.kept(0), 10);
  }

  private static void notArmedThen() {
    says("and it is not armed");
    FencedWords x = logOf(1);
    x.arm(1, -1);
    due("store(0, 1)", x.store(0, 1), LOST);
    due("recover()", x.recover(), DONE);
    x.begin();
    x.snapshot(0, 1);
    for (int i = 0; i < 501; i++) {
      due("store(0, " + i + ")", x.store(0, i), DONE);
    }
  }

  // Terms: undoing and covered words

  private static void undoesTheNewestFirst() {
    says("for each record of the log, the newest first");
    FencedWords x = Sentences.filled(5, 1, 50);
    x.begin();
    for (int i = 1; i <= 19; i++) {
      x.snapshot(5, 1);
      x.store(5, i);
    }
    due("abort()", x.abort(), DONE);
    due("seen(5): the oldest record is put back last", x.seen(5), 50);
    due("kept(5)", x.kept(5), 50);
  }

  private static void undoesTheFirstWordFirst() {
    says("for each of its words, the first first, the old value is stored");
    for (int act = 1; act <= 8; act++) {
      FencedWords x = storedToAllWords();
      x.arm(act, WORD_BITS);
      due("abort()", x.abort(), LOST);
      for (int a = 24; a < 32; a++) {
        due("kept(" + a + ") after act " + act, x.kept(a), a < 24 + act ? a + 100 : -a - 1);
      }
      due("kept(23): of an older record", x.kept(23), -24);
    }
  }

  private static void undoFlushesEachLineOnce() {
    says("then each line that has a word of some record is flushed, by their numbers");
    for (int n = 1; n <= 8; n++) {
      for (int a = 0; a + n <= 32; a++) {
        FencedWords x = opened();
        x.snapshot(a, n);
        x.snapshot(a, n);
        int before = x.meter();
        due("abort()", x.abort(), DONE);
        int lines = (a + n - 1) / 8 - a / 8 + 1;
        due("meter() with a record of " + n + " words from " + a, x.meter(), before + 2 * n + lines + 1 + 3);
      }
    }
  }

  private static void undoFences() {
    says("a fence; the log is cleared");
    for (int act = 34; act <= 37; act++) {
      FencedWords x = storedToAllWords();
      // What was stored comes through, so that the words have to be put back.
      x.arm(1, WORD_BITS);
      due("store(0, -1)", x.store(0, -1), LOST);
      x.arm(act, 0);
      due("recover() lost at act " + act, x.recover(), LOST);
      for (int a = 0; a < 32; a++) {
        due("kept(" + a + ") after act " + act, x.kept(a), act < 37 ? -a - 1 : a + 100);
      }
      due("records()", x.records(), 4);
    }
  }

  private static void undoClearsTheLog() {
    says("the log is cleared");
    for (int act = 1; act <= 3; act++) {
      FencedWords x = storedToAllWords();
      x.arm(37 + act, 0);
      due("abort() lost at act " + act + " of clearing", x.abort(), LOST);
      due("records()", x.records(), act < 3 ? 4 : 0);
      due("taken()", x.taken(), act < 3 ? 36 : 0);
      for (int a = 0; a < 32; a++) {
        due("kept(" + a + ")", x.kept(a), a + 100);
      }
    }
  }

  private static void undoOfNoRecord() {
    says("(Nothing at all if there is no record.)");
    FencedWords x = opened();
    x.arm(1, -1);
    due("abort() without records", x.abort(), DONE);
    due("meter()", x.meter(), 0);
    x = Sentences.off();
    x.arm(1, -1);
    due("recover() without records", x.recover(), DONE);
    due("meter()", x.meter(), 1);
  }

  private static void coveredWords() {
    says("A word is COVERED if a record of the log has it");
    for (int n = 1; n <= 8; n++) {
      for (int a = 0; a + n <= 32; a++) {
        FencedWords x = opened();
        x.snapshot(a, n);
        for (int w = -1; w <= 32; w++) {
          boolean covered = w >= a && w < a + n;
          due("store(" + w + ", 1) with a record of " + n + " words from " + a, x.store(w, 1), covered ? DONE : REFUSED);
        }
      }
    }
  }

  private static void coveredBySomeRecord() {
    says("if a record of the log has it");
    FencedWords x = logOf(20);
    for (int a = 0; a < 32; a++) {
      due("store(" + a + ", 1) with records of the words 0 .. 19", x.store(a, 1), a < 20 ? DONE : REFUSED);
    }
  }

  private static void coveredByNoRecordAnyMore() {
    says("A word is COVERED if a record of the log has it");
    for (int ending = 0; ending < 3; ending++) {
      FencedWords x = afterATransaction(ending);
      x.begin();
      due("store(0, 1) after ending " + ending, x.store(0, 1), REFUSED);
    }
  }
}
