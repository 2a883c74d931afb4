/** The sentences of the promises 1 to 15 that name a boundary case, each with a test of its own. */
public final class FencedWordsPromiseEdges {
  private static final int DONE = Sentences.DONE, REFUSED = Sentences.REFUSED, LOST = Sentences.LOST;
  private static final long WORD_BITS = Sentences.WORD_BITS;
  private static final long BIT_32 = Sentences.BIT_32;
  private static final long BIT_33 = Sentences.BIT_33;
  private static final int MIN = Integer.MIN_VALUE, MAX = Integer.MAX_VALUE;

  public static void main(String[] args) {
    newValues();
    newLog();
    newPower();
    newTransaction();
    newMeter();
    armedAfterMoreActs();
    armedWithOne();
    armedWithTheMost();
    armedNoMore();
    armRefused();
    armRefusedWhenArmed();
    armRefusedWhenOff();
    armedAnew();
    armedWhileOff();
    armedNoMoreWhileOff();
    beginOpens();
    beginRefusedWhenOff();
    beginRefusedWhenOpen();
    snapshotOfSeenValues();
    snapshotRefusedWhenNoneIsOpen();
    snapshotRefusedForTheCount();
    snapshotRefusedForNoWord();
    snapshotUpToTheLastWord();
    snapshotRefusedForTheCells();
    snapshotOfAllCellsLeft();
    snapshotRefusedDoesNoAct();
    storeOfAnyValue();
    storeRefusedWhenNoneIsOpen();
    storeRefusedForNoWord();
    storeRefusedWhenNotCovered();
    storeRefusedStoresToNoLine();
    commitOfEachSetOfLines();
    commitOfTheSameValue();
    commitOfTheOpenTransactionAlone();
    commitOfNoStore();
    commitOfNoRecord();
    commitIsOpenNoMore();
    commitRefused();
    abortUndoes();
    abortIsOpenNoMore();
    abortRefused();
    recoverReadsTheKeptValues();
    recoverUndoes();
    recoverRefused();
    recoverFails();
    onTells();
    openTells();
    seenWhenOff();
    seenOfNoWord();
    keptWhenOff();
    keptOfNoWord();
    recordsWrittenOrKept();
    recordsNotGone();
    recordsFromNoneToTheMost();
    takenCells();
    takenAfterALoss();
    meterOfActs();
    meterOfCallsWithoutActs();
    meterAfterALoss();
    Sentences.end();
  }

  private static void says(int promise, String words) {
    Sentences.says("Promise " + promise + ": " + words);
  }

  private static void due(String call, long got, long want) {
    Sentences.due(call, got, want);
  }

  private static void due(String call, boolean got, boolean want) {
    Sentences.due(call, got, want);
  }

  private static FencedWords opened() {
    return Sentences.opened();
  }

  /** A transaction is open, word 0 is kept as 10 and seen as 20, word 1 is 11; 20 acts are done. */
  private static FencedWords halfDone() {
    FencedWords x = Sentences.filled(0, 2, 10);
    x.begin();
    x.snapshot(0, 2);
    due("store to be half done", x.store(0, 20), DONE);
    due("meter() when half done", x.meter(), 20);
    return x;
  }

  /** Objects in each kind of state in which no transaction is open. */
  private static FencedWords[] closed() {
    FencedWords committed = Sentences.full();
    FencedWords aborted = halfDone();
    due("abort to be closed", aborted.abort(), DONE);
    FencedWords recovered = Sentences.offWithRecord();
    due("recover to be closed", recovered.recover(), DONE);
    return new FencedWords[] {new FencedWords(), committed, aborted, recovered, Sentences.off(), Sentences.offWithRecord()};
  }

  // Promise 1

  private static void newValues() {
    says(1, "All values 0");
    FencedWords x = new FencedWords();
    for (int a = 0; a < 32; a++) {
      due("seen(" + a + ")", x.seen(a), 0);
      due("kept(" + a + ")", x.kept(a), 0);
    }
  }

  private static void newLog() {
    says(1, "the log is empty");
    FencedWords x = new FencedWords();
    due("records()", x.records(), 0);
    due("taken()", x.taken(), 0);
    x.begin();
    for (int i = 0; i < 20; i++) {
      due("snapshot(0, 1)", x.snapshot(0, 1), DONE);
    }
  }

  private static void newPower() {
    says(1, "the power is on and not armed");
    FencedWords x = new FencedWords();
    due("on()", x.on(), true);
    x.begin();
    x.snapshot(0, 1);
    for (int i = 1; i <= 501; i++) {
      due("store(0, " + i + ")", x.store(0, i), DONE);
    }
  }

  private static void newTransaction() {
    says(1, "no transaction is open");
    FencedWords x = new FencedWords();
    due("open()", x.open(), false);
    due("commit()", x.commit(), REFUSED);
    due("abort()", x.abort(), REFUSED);
    due("begin()", x.begin(), DONE);
  }

  private static void newMeter() {
    says(1, "the meter shows 0");
    due("meter()", new FencedWords().meter(), 0);
  }

  // Promise 2

  private static void armedAfterMoreActs() {
    says(2, "Arms the power: it fails after n more acts");
    // 6 acts append, 2 store, 5 commit; refused calls and questions are no acts.
    int[] ends = {0, 6, 7, 8, 13};
    for (int n = 1; n <= 14; n++) {
      FencedWords x = new FencedWords();
      due("arm(" + n + ", 0)", x.arm(n, 0), true);
      due("begin()", x.begin(), DONE);
      due("begin()", x.begin(), REFUSED);
      due("store(0, 1)", x.store(0, 1), REFUSED);
      due("seen(0)", x.seen(0), 0);
      long[] answers = {x.snapshot(0, 2), x.store(0, 1), x.store(1, 1), x.commit()};
      for (int i = 0; i < 4; i++) {
        due("call " + i + ", armed with " + n, answers[i], n > ends[i + 1] ? DONE : n > ends[i] ? LOST : REFUSED);
      }
      due("meter()", x.meter(), Math.min(n, 13));
    }
  }

  private static void armedWithOne() {
    says(2, "it fails after n more acts (n = 1)");
    FencedWords x = halfDone();
    due("arm(1, 0)", x.arm(1, 0), true);
    due("on()", x.on(), true);
    due("store(1, 5)", x.store(1, 5), LOST);
    due("on()", x.on(), false);
    due("meter()", x.meter(), 21);
  }

  private static void armedWithTheMost() {
    says(2, "it fails after n more acts (n = 500)");
    FencedWords x = halfDone();
    due("arm(500, 2)", x.arm(500, 2), true);
    for (int i = 1; i <= 499; i++) {
      due("store(1, " + i + ")", x.store(1, i), DONE);
    }
    due("store(1, 500)", x.store(1, 500), LOST);
    due("kept(1)", x.kept(1), 500);
  }

  private static void armedNoMore() {
    says(2, "for n = 0 it is armed no more");
    FencedWords x = halfDone();
    due("arm(1, 0)", x.arm(1, 0), true);
    due("arm(0, -1)", x.arm(0, -1), true);
    for (int i = 0; i < 490; i++) {
      due("store(1, 1)", x.store(1, 1), DONE);
    }
    due("commit()", x.commit(), DONE);
    due("kept(0)", x.kept(0), 20);
    x = opened();
    due("arm(0, 0) when not armed", x.arm(0, 0), true);
    due("snapshot(0, 1)", x.snapshot(0, 1), DONE);
  }

  private static final int[] NO_NUMBERS = {-1, -2, -500, 501, 502, 512, 1 << 16, MIN, MIN + 1, MIN + 500, MAX};

  private static void armRefused() {
    says(2, "False, changing nothing, when n is not 0 .. 500");
    for (int n : NO_NUMBERS) {
      FencedWords x = halfDone();
      Sentences.changesNothing(x, "arm(" + n + ", -1)", y -> y.arm(n, -1) ? 1 : 0, 0);
      due("store(1, 1) after a refused arm", x.store(1, 1), DONE);
      due("snapshot(8, 8) after a refused arm", x.snapshot(8, 8), DONE);
      due("commit() after a refused arm", x.commit(), DONE);
    }
    for (int n = 0; n <= 500; n++) {
      due("arm(" + n + ", 0)", new FencedWords().arm(n, 0), true);
    }
  }

  private static void armRefusedWhenArmed() {
    says(2, "False, changing nothing (when it is armed)");
    for (int n : NO_NUMBERS) {
      FencedWords x = halfDone();
      due("arm(2, 1)", x.arm(2, 1), true);
      due("store(1, 1)", x.store(1, 1), DONE);
      Sentences.changesNothing(x, "arm(" + n + ", 2)", y -> y.arm(n, 2) ? 1 : 0, 0);
      due("store(1, 2), the second act", x.store(1, 2), LOST);
      due("kept(0), bit 0 of the mask", x.kept(0), 20);
      due("kept(1), bit 1 of the mask", x.kept(1), 11);
    }
  }

  private static void armRefusedWhenOff() {
    says(2, "False, changing nothing (while it is off)");
    for (int n : NO_NUMBERS) {
      FencedWords x = Sentences.offWithRecord();
      due("arm(1, 0)", x.arm(1, 0), true);
      Sentences.changesNothing(x, "arm(" + n + ", 1)", y -> y.arm(n, 1) ? 1 : 0, 0);
      due("recover()", x.recover(), LOST);
      due("kept(0)", x.kept(0), 20);
      due("arm(" + n + ", 1)", x.arm(n, 1), false);
      due("recover()", x.recover(), DONE);
    }
  }

  private static void armedAnew() {
    says(2, "Armed anew, what was armed before does not count.");
    FencedWords x = halfDone();
    due("arm(2, 1)", x.arm(2, 1), true);
    due("store(1, 1)", x.store(1, 1), DONE);
    due("arm(3, 2)", x.arm(3, 2), true);
    due("store(1, 2)", x.store(1, 2), DONE);
    due("store(1, 3)", x.store(1, 3), DONE);
    due("store(1, 4)", x.store(1, 4), LOST);
    due("kept(0), bit 0 of the second mask", x.kept(0), 10);
    due("kept(1), bit 1 of the second mask", x.kept(1), 4);
    x = halfDone();
    due("arm(500, 1)", x.arm(500, 1), true);
    due("arm(1, 0), sooner", x.arm(1, 0), true);
    due("store(1, 1)", x.store(1, 1), LOST);
    due("kept(0), bit 0 of the second mask", x.kept(0), 10);
  }

  private static void armedWhileOff() {
    says(2, "It can be armed while it is off.");
    for (int n = 1; n <= 6; n++) {
      FencedWords x = Sentences.offWithRecord();
      due("arm(" + n + ", 1)", x.arm(n, 1), true);
      due("on()", x.on(), false);
      due("recover()", x.recover(), LOST);
      due("meter()", x.meter(), 17 + n);
    }
    FencedWords x = Sentences.off();
    due("arm(7, 0)", x.arm(7, 0), true);
    due("recover(), which has no act", x.recover(), DONE);
    x.begin();
    due("snapshot(0, 2), six acts", x.snapshot(0, 2), DONE);
    due("store(0, 1), the seventh", x.store(0, 1), LOST);
  }

  private static void armedNoMoreWhileOff() {
    says(2, "for n = 0 it is armed no more (while it is off)");
    FencedWords x = Sentences.offWithRecord();
    due("arm(1, 0)", x.arm(1, 0), true);
    due("arm(0, 0)", x.arm(0, 0), true);
    due("recover()", x.recover(), DONE);
  }

  // Promise 3

  private static void beginOpens() {
    says(3, "Opens a transaction: DONE");
    for (FencedWords x : closed()) {
      if (x.on()) {
        int before = x.meter();
        due("begin()", x.begin(), DONE);
        due("open()", x.open(), true);
        due("meter()", x.meter(), before);
      }
    }
    FencedWords x = opened();
    due("commit()", x.commit(), DONE);
    due("begin() after an empty transaction", x.begin(), DONE);
    due("abort()", x.abort(), DONE);
    due("begin() after an empty transaction", x.begin(), DONE);
  }

  private static void beginRefusedWhenOff() {
    says(3, "REFUSED when the power is off");
    Sentences.refused(Sentences.off(), "begin() with an empty log", y -> y.begin());
    Sentences.refused(Sentences.offWithRecord(), "begin() with a record", y -> y.begin());
    FencedWords x = Sentences.offWithRecord();
    x.arm(1, 0);
    due("recover()", x.recover(), LOST);
    Sentences.refused(x, "begin() after a recovery that failed", y -> y.begin());
    due("recover()", x.recover(), DONE);
    due("open(): the refused one opened nothing", x.open(), false);
  }

  private static void beginRefusedWhenOpen() {
    says(3, "REFUSED when ... one is open");
    Sentences.refused(opened(), "begin() again", y -> y.begin());
    FencedWords x = halfDone();
    Sentences.refused(x, "begin() when half done", y -> y.begin());
    // The transaction goes on: what it stored and noted is not forgotten.
    due("commit()", x.commit(), DONE);
    due("meter()", x.meter(), 20 + 1 + 1 + 3);
    due("kept(0)", x.kept(0), 20);
  }

  // Promise 4

  private static void snapshotOfSeenValues() {
    says(4, "Appends a record of the words a .. a + n - 1 with their seen values");
    FencedWords x = halfDone();
    due("snapshot(0, 2)", x.snapshot(0, 2), DONE);
    x.store(0, 30);
    x.store(1, 31);
    x.arm(2, WORD_BITS);
    due("abort(), lost when the newest record is put back", x.abort(), LOST);
    due("kept(0): it was seen as 20 and kept as 10", x.kept(0), 20);
    due("kept(1)", x.kept(1), 11);
  }

  private static void snapshotRefusedWhenNoneIsOpen() {
    says(4, "REFUSED when no transaction is open");
    for (FencedWords x : closed()) {
      Sentences.refused(x, "snapshot(0, 1)", y -> y.snapshot(0, 1));
    }
    due("closed states", closed().length, 6);
  }

  private static void snapshotRefusedForTheCount() {
    says(4, "REFUSED when ... n is not 1 .. 8");
    for (int n : new int[] {0, -1, -8, 9, 10, 32, 39, 40, MIN, MIN + 1, MAX - 1, MAX}) {
      for (int a : new int[] {0, 1, 31}) {
        Sentences.refused(halfDone(), "snapshot(" + a + ", " + n + ")", y -> y.snapshot(a, n));
      }
    }
  }

  private static void snapshotRefusedForNoWord() {
    says(4, "REFUSED when ... one of these is no word");
    for (int n = 1; n <= 8; n++) {
      // The first is no word; the last is none; a + n - 1 wraps around.
      for (int a : new int[] {-1, 1 - n, -n, -8, 33 - n, 32, MAX, MAX - n + 1, MAX - n + 2, MIN, MIN + 32 - n}) {
        int count = n;
        if (a < 0 || a > 32 - n) {
          Sentences.refused(halfDone(), "snapshot(" + a + ", " + n + ")", y -> y.snapshot(a, count));
        }
      }
    }
  }

  private static void snapshotUpToTheLastWord() {
    says(4, "REFUSED when ... one of these is no word (else not)");
    for (int n = 1; n <= 8; n++) {
      FencedWords x = opened();
      due("snapshot(0, " + n + ")", x.snapshot(0, n), DONE);
      due("snapshot(" + (32 - n) + ", " + n + ")", x.snapshot(32 - n, n), DONE);
      due("store(31, 5)", x.store(31, 5), DONE);
      due("abort()", x.abort(), DONE);
      due("seen(31)", x.seen(31), 0);
    }
  }

  /** A transaction is open and the log has so many cells left (not 1 less than all of them). */
  private static FencedWords withCellsLeft(int left) {
    FencedWords x = opened();
    int toTake = 40 - left;
    while (toTake > 0) {
      // No single cell may remain, since no record takes one.
      int cells = toTake == 10 ? 5 : Math.min(9, toTake);
      due("snapshot to take cells", x.snapshot(0, cells - 1), DONE);
      toTake -= cells;
    }
    due("taken()", x.taken(), 40 - left);
    return x;
  }

  private static void snapshotRefusedForTheCells() {
    says(4, "REFUSED when ... the log has less than n + 1 cells left");
    for (int n = 1; n <= 8; n++) {
      int count = n;
      for (int left = 0; left <= n; left++) {
        Sentences.refused(withCellsLeft(left), "snapshot(0, " + n + ") with " + left + " cells left", y -> y.snapshot(0, count));
      }
    }
  }

  private static void snapshotOfAllCellsLeft() {
    says(4, "the log has less than n + 1 cells left (else not)");
    for (int n = 1; n <= 8; n++) {
      FencedWords x = withCellsLeft(n + 1);
      due("snapshot(24, " + n + ") with just its cells left", x.snapshot(24, n), DONE);
      due("taken()", x.taken(), 40);
      due("store(24, 1)", x.store(24, 1), DONE);
      due("abort()", x.abort(), DONE);
      due("seen(24)", x.seen(24), 0);
      due("snapshot(0, 1) with a log that was full", x.begin() + x.snapshot(0, 1), DONE);
    }
  }

  private static void snapshotRefusedDoesNoAct() {
    says(4, "REFUSED (no act is done)");
    FencedWords x = halfDone();
    x.arm(1, 1);
    Sentences.refused(x, "snapshot(0, 9)", y -> y.snapshot(0, 9));
    Sentences.refused(x, "snapshot(31, 2)", y -> y.snapshot(31, 2));
    due("snapshot(0, 1), still armed", x.snapshot(0, 1), LOST);
  }

  // Promise 5

  private static void storeOfAnyValue() {
    says(5, "Stores a value to a word: DONE");
    for (long v : new long[] {0, 1, -1, Long.MAX_VALUE, Long.MIN_VALUE, MAX, MIN, BIT_32}) {
      FencedWords x = opened();
      x.snapshot(31, 1);
      due("store(31, " + v + ")", x.store(31, v), DONE);
      due("seen(31)", x.seen(31), v);
      due("commit()", x.commit(), DONE);
      due("kept(31)", x.kept(31), v);
      x.begin();
      x.snapshot(31, 1);
      x.store(31, 12345);
      due("abort()", x.abort(), DONE);
      due("seen(31) after abort", x.seen(31), v);
    }
  }

  private static void storeRefusedWhenNoneIsOpen() {
    says(5, "REFUSED when no transaction is open");
    for (FencedWords x : closed()) {
      Sentences.refused(x, "store(0, 5)", y -> y.store(0, 5));
    }
  }

  private static void storeRefusedForNoWord() {
    says(5, "REFUSED when ... there is no such word");
    for (int a : Sentences.NO_WORDS) {
      FencedWords x = opened();
      x.snapshot(0, 8);
      x.snapshot(24, 8);
      Sentences.refused(x, "store(" + a + ", 5)", y -> y.store(a, 5));
    }
  }

  private static void storeRefusedWhenNotCovered() {
    says(5, "REFUSED when ... it is not covered");
    Sentences.refused(opened(), "store(0, 5) with an empty log", y -> y.store(0, 5));
    for (int a : new int[] {0, 3, 7, 8, 31}) {
      FencedWords x = opened();
      x.snapshot(4, 3);
      Sentences.refused(x, "store(" + a + ", 5) with a record of the words 4 .. 6", y -> y.store(a, 5));
    }
  }

  private static void storeRefusedStoresToNoLine() {
    says(5, "REFUSED (the transaction did not store to it)");
    FencedWords x = opened();
    x.snapshot(0, 1);
    due("store(1, 5)", x.store(1, 5), REFUSED);
    due("store(8, 5)", x.store(8, 5), REFUSED);
    due("store(32, 5)", x.store(32, 5), REFUSED);
    due("store(-1, 5)", x.store(-1, 5), REFUSED);
    due("commit()", x.commit(), DONE);
    due("meter(): nothing was flushed", x.meter(), 5 + 3);
  }

  // Promise 6

  private static void commitOfEachSetOfLines() {
    says(6, "Flushes each line that has a word to which the open transaction stored, by their numbers, then a fence");
    for (int lines = 1; lines < 16; lines++) {
      FencedWords x = Sentences.full();
      x.begin();
      for (int line = 0; line < 4; line++) {
        x.snapshot(8 * line, 8);
      }
      for (int line = 0; line < 4; line++) {
        for (int w = 8 * line; w < 8 * line + 8 && (lines >> line & 1) != 0; w++) {
          due("store(" + w + ")", x.store(w, w), DONE);
        }
      }
      int before = x.meter();
      due("commit()", x.commit(), DONE);
      due("meter() for the lines " + lines, x.meter(), before + Integer.bitCount(lines) + 1 + 3);
      for (int w = 0; w < 32; w++) {
        due("kept(" + w + ") for the lines " + lines, x.kept(w), (lines >> w / 8 & 1) != 0 ? w : w + 100);
      }
    }
  }

  private static void commitOfTheSameValue() {
    says(6, "each line that has a word to which the open transaction stored (whatever it stored)");
    FencedWords x = opened();
    x.snapshot(8, 1);
    due("store(8, 0), which is seen already", x.store(8, 0), DONE);
    due("commit()", x.commit(), DONE);
    due("meter()", x.meter(), 5 + 1 + 1 + 1 + 3);
  }

  private static void commitOfTheOpenTransactionAlone() {
    says(6, "to which the open transaction stored");
    FencedWords x = Sentences.full();
    int before = x.meter();
    x.begin();
    x.snapshot(24, 1);
    x.store(24, 1);
    due("commit() after a commit of all lines", x.commit(), DONE);
    due("meter()", x.meter(), before + 5 + 1 + 1 + 1 + 3);
    x = halfDone();
    due("abort()", x.abort(), DONE);
    before = x.meter();
    x.begin();
    x.snapshot(0, 1);
    due("commit() after an abort", x.commit(), DONE);
    due("meter()", x.meter(), before + 5 + 3);
    x = Sentences.offWithRecord();
    due("recover()", x.recover(), DONE);
    before = x.meter();
    x.begin();
    x.snapshot(0, 1);
    due("commit() after a loss", x.commit(), DONE);
    due("meter()", x.meter(), before + 5 + 3);
  }

  private static void commitOfNoStore() {
    says(6, "neither if it stored to none");
    FencedWords x = opened();
    x.snapshot(0, 8);
    x.snapshot(24, 8);
    x.arm(1, BIT_33);
    due("commit() without stores", x.commit(), LOST);
    due("records(): the first act crossed them out", x.records(), 0);
    due("meter()", x.meter(), 12 + 12 + 1);
  }

  private static void commitOfNoRecord() {
    says(6, "then clears the log if it has a record");
    FencedWords x = opened();
    x.arm(1, 0);
    due("commit() without records", x.commit(), DONE);
    due("meter()", x.meter(), 0);
    due("on()", x.on(), true);
    x = halfDone();
    due("commit() with a record", x.commit(), DONE);
    due("meter()", x.meter(), 20 + 1 + 1 + 3);
    due("records()", x.records(), 0);
  }

  private static void commitIsOpenNoMore() {
    says(6, "the transaction is open no more: DONE");
    FencedWords x = opened();
    due("commit() of an empty one", x.commit(), DONE);
    due("open()", x.open(), false);
    x = halfDone();
    due("commit()", x.commit(), DONE);
    due("open()", x.open(), false);
  }

  private static void commitRefused() {
    says(6, "REFUSED when none is open");
    for (FencedWords x : closed()) {
      Sentences.refused(x, "commit()", y -> y.commit());
    }
  }

  // Promise 7

  private static void abortUndoes() {
    says(7, "Undoes");
    FencedWords x = halfDone();
    due("abort()", x.abort(), DONE);
    due("seen(0)", x.seen(0), 10);
    due("kept(0)", x.kept(0), 10);
    due("records()", x.records(), 0);
    due("taken()", x.taken(), 0);
    due("meter()", x.meter(), 20 + 2 + 1 + 1 + 3);
    x = opened();
    for (int i = 0; i < 20; i++) {
      x.snapshot(i, 1);
      x.store(i, 1);
    }
    int before = x.meter();
    due("abort() with a full log", x.abort(), DONE);
    due("meter()", x.meter(), before + 20 + 3 + 1 + 3);
  }

  private static void abortIsOpenNoMore() {
    says(7, "the transaction is open no more: DONE");
    FencedWords x = opened();
    x.arm(1, 0);
    due("abort() of an empty one", x.abort(), DONE);
    due("open()", x.open(), false);
    due("meter()", x.meter(), 0);
    x = halfDone();
    due("abort()", x.abort(), DONE);
    due("open()", x.open(), false);
  }

  private static void abortRefused() {
    says(7, "REFUSED when none is open");
    for (FencedWords x : closed()) {
      Sentences.refused(x, "abort()", y -> y.abort());
    }
  }

  // Promise 8

  private static void recoverReadsTheKeptValues() {
    says(8, "Switches the power on: all seen values become the kept ones");
    FencedWords x = Sentences.full();
    x.begin();
    x.snapshot(0, 8);
    x.snapshot(24, 8);
    x.store(0, -1);
    x.store(31, -1);
    x.arm(1, 0);
    due("snapshot(8, 1)", x.snapshot(8, 1), LOST);
    // No word is put back that is not seen as it was kept: the first act of undoing stores to word 24.
    x.arm(1, WORD_BITS);
    due("recover()", x.recover(), LOST);
    for (int a = 0; a < 32; a++) {
      due("kept(" + a + ") after the first act", x.kept(a), a + 100);
    }
    due("recover()", x.recover(), DONE);
    due("on()", x.on(), true);
    for (int a = 0; a < 32; a++) {
      due("seen(" + a + ")", x.seen(a), a + 100);
    }
  }

  private static void recoverUndoes() {
    says(8, "then undoes: DONE");
    FencedWords x = Sentences.offWithRecord();
    due("recover()", x.recover(), DONE);
    due("seen(0)", x.seen(0), 10);
    due("kept(0)", x.kept(0), 10);
    due("records()", x.records(), 0);
    due("meter()", x.meter(), 17 + 1 + 1 + 1 + 3);
    x = Sentences.off();
    x.arm(1, 0);
    due("recover() with an empty log", x.recover(), DONE);
    due("meter()", x.meter(), 1);
  }

  private static void recoverRefused() {
    says(8, "REFUSED when the power is on");
    Sentences.refused(new FencedWords(), "recover() of a new object", y -> y.recover());
    Sentences.refused(opened(), "recover() with an empty transaction", y -> y.recover());
    Sentences.refused(halfDone(), "recover() when half done", y -> y.recover());
    FencedWords x = Sentences.offWithRecord();
    due("recover()", x.recover(), DONE);
    Sentences.refused(x, "recover() again", y -> y.recover());
  }

  private static void recoverFails() {
    says(8, "When it fails in this it is off again.");
    for (int act = 1; act <= 6; act++) {
      FencedWords x = Sentences.offWithRecord();
      for (int time = 1; time <= 3; time++) {
        x.arm(act, 0);
        // The sixth act ends the log, so that there is nothing left to fail in.
        boolean fails = act < 6 || time == 1;
        due("recover() lost at act " + act, x.recover(), fails ? LOST : time == 2 ? DONE : REFUSED);
        due("on()", x.on(), !fails);
        due("open()", x.open(), false);
        due("records()", x.records(), act < 6 ? 1 : 0);
        due("begin()", fails ? x.begin() : REFUSED, REFUSED);
      }
      x.arm(0, 0);
      due("recover() at last", x.recover(), act < 6 ? DONE : REFUSED);
      due("on()", x.on(), true);
      due("seen(0)", x.seen(0), 10);
    }
  }

  // Promises 9 to 12

  private static void onTells() {
    says(9, "Whether the power is on.");
    due("on() of a new object", new FencedWords().on(), true);
    due("on() with a transaction", opened().on(), true);
    due("on() after a loss", Sentences.off().on(), false);
    FencedWords x = Sentences.offWithRecord();
    x.arm(1, 0);
    due("on() when armed while off", x.on(), false);
    x.recover();
    due("on() after a recovery that failed", x.on(), false);
    x.recover();
    due("on() after a recovery", x.on(), true);
  }

  private static void openTells() {
    says(10, "Whether a transaction is open.");
    for (FencedWords x : closed()) {
      due("open()", x.open(), false);
    }
    FencedWords x = opened();
    due("open() after begin", x.open(), true);
    x.begin();
    x.store(0, 1);
    x.snapshot(0, 0);
    due("open() after refused calls", x.open(), true);
    x.arm(1, 0);
    x.snapshot(0, 1);
    due("open() after a loss", x.open(), false);
  }

  private static void seenWhenOff() {
    says(11, "0 when the power is off");
    FencedWords x = Sentences.full();
    x.begin();
    x.arm(1, -1);
    due("snapshot(0, 1)", x.snapshot(0, 1), LOST);
    for (int a = 0; a < 32; a++) {
      due("seen(" + a + ") when off", x.seen(a), 0);
    }
    due("seen(32) when off", x.seen(32), 0);
    due("recover()", x.recover(), DONE);
    due("seen(31)", x.seen(31), 131);
  }

  private static void seenOfNoWord() {
    says(11, "0 when ... there is no such word");
    FencedWords x = Sentences.full();
    for (int a : Sentences.NO_WORDS) {
      due("seen(" + a + ")", x.seen(a), 0);
    }
    due("seen(0)", x.seen(0), 100);
    due("seen(31)", x.seen(31), 131);
  }

  private static void keptWhenOff() {
    says(12, "The kept value of a word");
    FencedWords x = Sentences.full();
    x.begin();
    x.snapshot(0, 1);
    x.store(0, 1);
    due("kept(0), which is not the seen one", x.kept(0), 100);
    x.arm(1, 0);
    due("snapshot(0, 1)", x.snapshot(0, 1), LOST);
    for (int a = 0; a < 32; a++) {
      due("kept(" + a + ") when off", x.kept(a), a + 100);
    }
  }

  private static void keptOfNoWord() {
    says(12, "0 when there is no such word");
    FencedWords x = Sentences.full();
    x.begin();
    for (int a : Sentences.NO_WORDS) {
      due("kept(" + a + ")", x.kept(a), 0);
    }
    x.arm(1, 0);
    due("snapshot(0, 1)", x.snapshot(0, 1), LOST);
    for (int a : Sentences.NO_WORDS) {
      due("kept(" + a + ") when off", x.kept(a), 0);
    }
    due("kept(31)", x.kept(31), 131);
  }

  // Promises 13 to 15

  private static void recordsWrittenOrKept() {
    says(13, "those that are written or kept");
    int[] want = {1, 1, 1, 2, 2, 2};
    for (int act = 1; act <= 5; act++) {
      FencedWords x = halfDone();
      x.arm(act, BIT_32);
      due("snapshot(8, 1)", x.snapshot(8, 1), LOST);
      due("records() after act " + act, x.records(), want[act]);
    }
  }

  private static void recordsNotGone() {
    says(13, "and not gone");
    // A flush and a fence, then the log is cleared.
    int[] want = {1, 1, 1, 1, 1, 0};
    for (int act = 1; act <= 5; act++) {
      FencedWords x = halfDone();
      x.arm(act, 0);
      due("commit()", x.commit(), LOST);
      due("records() after act " + act, x.records(), want[act]);
      due("recover()", x.recover(), DONE);
      due("records() after recover", x.records(), 0);
    }
  }

  private static void recordsFromNoneToTheMost() {
    says(13, "How many records the log has");
    FencedWords x = opened();
    due("records() at first", x.records(), 0);
    for (int i = 1; i <= 20; i++) {
      x.snapshot(0, 1);
      due("records()", x.records(), i);
    }
    x.snapshot(0, 1);
    due("records() after a refused one", x.records(), 20);
    x.abort();
    due("records() after abort", x.records(), 0);
  }

  private static void takenCells() {
    says(14, "How many cells the records of the log take.");
    FencedWords x = opened();
    due("taken() at first", x.taken(), 0);
    int[] counts = {8, 1, 7, 2, 6, 3, 5};
    int cells = 0;
    for (int n : counts) {
      x.snapshot(0, n);
      cells += n + 1;
      due("taken()", x.taken(), cells);
    }
    due("snapshot(0, 1) with 1 cell left", x.snapshot(0, 1), REFUSED);
    due("taken() after a refused one", x.taken(), 39);
    x.commit();
    due("taken() after commit", x.taken(), 0);
  }

  private static void takenAfterALoss() {
    says(14, "How many cells the records of the log take (after a loss).");
    for (int n = 1; n <= 8; n++) {
      for (int outlives = 0; outlives < 2; outlives++) {
        FencedWords x = halfDone();
        x.arm(n + 2, outlives == 1 ? BIT_32 : 0);
        due("snapshot(8, " + n + ")", x.snapshot(8, n), LOST);
        due("taken()", x.taken(), outlives == 1 ? 3 + n + 1 : 3);
        due("recover()", x.recover(), DONE);
        due("taken() after recover", x.taken(), 0);
      }
    }
  }

  private static void meterOfActs() {
    says(15, "How many acts were done.");
    FencedWords x = opened();
    int acts = 0;
    for (int n = 1; n <= 7; n++) {
      x.snapshot(4, n);
      acts += n + 4;
      due("meter() after a snapshot of " + n, x.meter(), acts);
    }
    x.store(4, 1);
    due("meter() after a store", x.meter(), acts + 1);
    x.store(8, 1);
    due("meter() after a store", x.meter(), acts + 2);
    x.commit();
    due("meter() after a commit", x.meter(), acts + 2 + 2 + 1 + 3);
  }

  private static void meterOfCallsWithoutActs() {
    says(15, "How many acts were done (none by these calls).");
    FencedWords x = new FencedWords();
    x.recover();
    x.snapshot(0, 1);
    x.store(0, 1);
    x.commit();
    x.abort();
    x.arm(5, 0);
    x.begin();
    x.begin();
    x.snapshot(0, 9);
    x.store(0, 1);
    x.seen(0);
    x.kept(0);
    x.on();
    x.open();
    x.records();
    x.taken();
    x.meter();
    x.commit();
    x.begin();
    x.abort();
    due("meter()", x.meter(), 0);
  }

  private static void meterAfterALoss() {
    says(15, "How many acts were done (the one before the loss is, those after it are not).");
    for (int act = 1; act <= 12; act++) {
      FencedWords x = opened();
      x.arm(act, 0);
      due("snapshot(0, 8)", x.snapshot(0, 8), LOST);
      due("meter()", x.meter(), act);
      x.begin();
      x.snapshot(0, 8);
      x.abort();
      due("meter() when off", x.meter(), act);
      due("recover()", x.recover(), DONE);
      due("meter() after recover", x.meter(), act < 12 ? act : 12 + 8 + 1 + 1 + 3);
    }
  }
}
