/** The promises one by one: ordinary inputs, the edges that the document names, and wrong inputs. */
public final class FencedWordsPromises {
  private static final int DONE = 0, REFUSED = -1, LOST = -2;
  private static final long RECORD_BIT = 1L << 32;
  private static final long CROSSED_BIT = 1L << 33;
  private static final long ALL_WORDS = 0xFFFFFFFFL;

  private static int promise = 0;
  private static int wrong = 0;

  public static void main(String[] args) {
    promise = 1;
    newObject();
    promise = 2;
    armRefusesWrongNumbers();
    armCountsActsOverCalls();
    armAnewAndDisarm();
    armWhileOff();
    armIsUsedUpByALoss();
    armWithTheMost();
    promise = 3;
    beginOpensOne();
    promise = 4;
    snapshotRefusals();
    snapshotFillsTheLog();
    snapshotTakesSeenValues();
    snapshotLosesPowerAtEachAct();
    outlivedRecordIsKept();
    promise = 5;
    storeRefusals();
    storeOfCoveredWords();
    storeLosesPower();
    promise = 6;
    commitWithoutStores();
    commitFlushesStoredLines();
    commitForgetsEarlierStores();
    commitLosesPowerAtEachAct();
    promise = 7;
    abortPutsBack();
    abortWithoutRecords();
    abortStoresInOrder();
    abortFlushesLinesOfRecords();
    promise = 8;
    recoverRefusedWhenOn();
    recoverWithoutRecords();
    recoverReadsKeptValues();
    recoverLosesPowerAgainAndAgain();
    crossedOutRecordsThatStay();
    promise = 9;
    onTellsThePower();
    promise = 10;
    openTellsTheTransaction();
    promise = 11;
    seenOfNoWord();
    promise = 12;
    keptOfNoWord();
    promise = 13;
    recordsAreCounted();
    promise = 14;
    takenCounts();
    promise = 15;
    meterCounts();
    System.out.println(wrong == 0 ? "all answers are as due" : wrong + " answers are not as due");
    if (wrong != 0) {
      System.exit(1);
    }
  }

  private static void due(String call, long got, long want) {
    if (got != want) {
      wrong++;
      System.out.println("promise " + promise + ": " + call + " answered " + got + ", due is " + want);
    }
  }

  private static void due(String call, boolean got, boolean want) {
    due(call, got ? 1 : 0, want ? 1 : 0);
  }

  private static FencedWords opened() {
    FencedWords x = new FencedWords();
    due("begin()", x.begin(), DONE);
    return x;
  }

  /** An object whose words a .. a + n - 1 hold base, base + 1 .., kept, with no transaction open. */
  private static FencedWords filled(int a, int n, long base) {
    FencedWords x = opened();
    due("snapshot", x.snapshot(a, n), DONE);
    for (int i = 0; i < n; i++) {
      due("store", x.store(a + i, base + i), DONE);
    }
    due("commit()", x.commit(), DONE);
    return x;
  }

  private static void newObject() {
    FencedWords x = new FencedWords();
    for (int a = 0; a < 32; a++) {
      due("seen(" + a + ")", x.seen(a), 0);
      due("kept(" + a + ")", x.kept(a), 0);
    }
    due("on()", x.on(), true);
    due("open()", x.open(), false);
    due("records()", x.records(), 0);
    due("taken()", x.taken(), 0);
    due("meter()", x.meter(), 0);
    due("recover()", x.recover(), REFUSED);
    due("begin()", x.begin(), DONE);
    for (int i = 0; i < 4; i++) {
      due("snapshot, not armed", x.snapshot(8 * i, 8), DONE);
    }
    FencedWords y = new FencedWords();
    due("open() of another", y.open(), false);
    due("records() of another", y.records(), 0);
  }

  private static void armRefusesWrongNumbers() {
    FencedWords x = opened();
    int[] bad = {-1, 501, 502, 1000, Integer.MIN_VALUE, Integer.MAX_VALUE};
    for (int n : bad) {
      due("arm(" + n + ", 0)", x.arm(n, 0), false);
    }
    due("snapshot after refused arms", x.snapshot(0, 8), DONE);
    due("arm(2, 1)", x.arm(2, 1), true);
    for (int n : bad) {
      due("arm(" + n + ", -1)", x.arm(n, -1), false);
    }
    due("store(0, 5)", x.store(0, 5), DONE);
    due("store(1, 6)", x.store(1, 6), LOST);
    due("kept(0), mask of the arm that counts", x.kept(0), 5);
    due("kept(1), mask of the arm that counts", x.kept(1), 0);
  }

  private static void armCountsActsOverCalls() {
    FencedWords x = opened();
    due("arm(8, 0)", x.arm(8, 0), true);
    due("snapshot(0, 2)", x.snapshot(0, 2), DONE);
    due("store(9, 1)", x.store(9, 1), REFUSED);
    due("store(0, 1)", x.store(0, 1), DONE);
    due("on()", x.on(), true);
    due("commit()", x.commit(), LOST);
    due("meter()", x.meter(), 8);
    due("kept(0)", x.kept(0), 0);
  }

  private static void armAnewAndDisarm() {
    FencedWords x = opened();
    due("snapshot(0, 1)", x.snapshot(0, 1), DONE);
    due("arm(2, 1)", x.arm(2, 1), true);
    due("store(0, 1)", x.store(0, 1), DONE);
    due("arm(2, 0)", x.arm(2, 0), true);
    due("store(0, 2)", x.store(0, 2), DONE);
    due("arm(0, 1)", x.arm(0, 1), true);
    due("store(0, 3)", x.store(0, 3), DONE);
    due("store(0, 4)", x.store(0, 4), DONE);
    due("arm(1, 1)", x.arm(1, 1), true);
    due("arm(1, 0)", x.arm(1, 0), true);
    due("store(0, 5)", x.store(0, 5), LOST);
    due("kept(0)", x.kept(0), 0);
  }

  private static void armWhileOff() {
    FencedWords x = opened();
    due("snapshot(0, 1)", x.snapshot(0, 1), DONE);
    x.arm(1, 1);
    due("store(0, 5)", x.store(0, 5), LOST);
    due("arm(1, 0) while off", x.arm(1, 0), true);
    due("arm(501, 0) while off", x.arm(501, 0), false);
    due("recover()", x.recover(), LOST);
    due("kept(0)", x.kept(0), 5);
    due("arm(7, 0) while off", x.arm(7, 0), true);
    due("recover()", x.recover(), DONE);
    due("kept(0)", x.kept(0), 0);
    due("begin()", x.begin(), DONE);
    due("snapshot(0, 1), the seventh act", x.snapshot(0, 1), LOST);
  }

  private static void armIsUsedUpByALoss() {
    FencedWords x = opened();
    due("snapshot(0, 1)", x.snapshot(0, 1), DONE);
    x.arm(1, 0);
    due("store(0, 5)", x.store(0, 5), LOST);
    due("recover()", x.recover(), DONE);
    due("begin()", x.begin(), DONE);
    due("snapshot(0, 1)", x.snapshot(0, 1), DONE);
    due("store(0, 5)", x.store(0, 5), DONE);
    due("commit()", x.commit(), DONE);
    due("kept(0)", x.kept(0), 5);
  }

  private static void armWithTheMost() {
    FencedWords x = opened();
    due("snapshot(0, 1)", x.snapshot(0, 1), DONE);
    due("arm(500, 1)", x.arm(500, 1), true);
    for (int i = 1; i < 500; i++) {
      due("store", x.store(0, i), DONE);
    }
    due("the 500th store", x.store(0, 500), LOST);
    due("kept(0)", x.kept(0), 500);
    due("meter()", x.meter(), 505);
  }

  private static void beginOpensOne() {
    FencedWords x = new FencedWords();
    due("arm(1, 0)", x.arm(1, 0), true);
    due("begin()", x.begin(), DONE);
    due("open()", x.open(), true);
    due("begin() again", x.begin(), REFUSED);
    due("open()", x.open(), true);
    due("meter()", x.meter(), 0);
    due("snapshot(0, 1)", x.snapshot(0, 1), LOST);
    due("begin() when off", x.begin(), REFUSED);
    due("open()", x.open(), false);
    due("recover()", x.recover(), DONE);
    due("begin() after recover", x.begin(), DONE);
    due("commit()", x.commit(), DONE);
    due("begin() after commit", x.begin(), DONE);
    due("abort()", x.abort(), DONE);
    due("begin() after abort", x.begin(), DONE);
  }

  private static void snapshotRefusals() {
    FencedWords x = new FencedWords();
    due("snapshot(0, 1) with none open", x.snapshot(0, 1), REFUSED);
    x.begin();
    int[][] bad = {{0, 0}, {0, -1}, {0, 9}, {-1, 1}, {-1, 2}, {32, 1}, {31, 2}, {25, 8}, {30, 3}, {0, Integer.MIN_VALUE},
        {0, Integer.MAX_VALUE}, {Integer.MAX_VALUE, 1}, {Integer.MAX_VALUE, 8}, {Integer.MIN_VALUE, 1}, {Integer.MIN_VALUE, 8},
        {Integer.MAX_VALUE, Integer.MAX_VALUE}, {1, Integer.MAX_VALUE}, {Integer.MIN_VALUE, Integer.MIN_VALUE}};
    for (int[] b : bad) {
      due("snapshot(" + b[0] + ", " + b[1] + ")", x.snapshot(b[0], b[1]), REFUSED);
    }
    due("records()", x.records(), 0);
    due("meter()", x.meter(), 0);
    due("snapshot(31, 1)", x.snapshot(31, 1), DONE);
    due("snapshot(24, 8)", x.snapshot(24, 8), DONE);
    due("snapshot(0, 1)", x.snapshot(0, 1), DONE);
    due("snapshot(5, 8)", x.snapshot(5, 8), DONE);
    due("meter()", x.meter(), 5 + 12 + 5 + 12);
    x.commit();
    due("snapshot(0, 1) after commit", x.snapshot(0, 1), REFUSED);
  }

  private static void snapshotFillsTheLog() {
    FencedWords x = opened();
    for (int i = 0; i < 20; i++) {
      due("snapshot(" + i + ", 1)", x.snapshot(i, 1), DONE);
    }
    due("taken()", x.taken(), 40);
    due("snapshot(0, 1) with no cell left", x.snapshot(0, 1), REFUSED);
    due("records()", x.records(), 20);
    due("commit()", x.commit(), DONE);
    x.begin();
    for (int i = 0; i < 4; i++) {
      x.snapshot(8 * i, 8);
    }
    due("snapshot(0, 4) with 4 cells left", x.snapshot(0, 4), REFUSED);
    due("snapshot(0, 2) with 4 cells left", x.snapshot(0, 2), DONE);
    due("snapshot(0, 1) with 1 cell left", x.snapshot(0, 1), REFUSED);
    due("taken()", x.taken(), 39);
    due("abort()", x.abort(), DONE);
    x.begin();
    for (int i = 0; i < 4; i++) {
      due("snapshot after abort", x.snapshot(8 * i, 8), DONE);
    }
    due("snapshot(0, 3) with 4 cells left", x.snapshot(0, 3), DONE);
  }

  private static void snapshotTakesSeenValues() {
    FencedWords x = opened();
    x.snapshot(6, 4);
    x.store(7, 70);
    x.store(8, 80);
    due("commit()", x.commit(), DONE);
    x.begin();
    x.snapshot(7, 1);
    x.store(7, 71);
    due("kept(7)", x.kept(7), 70);
    due("snapshot(7, 2)", x.snapshot(7, 2), DONE);
    due("kept(7): no line was flushed", x.kept(7), 70);
    x.store(7, 72);
    x.store(8, 82);
    // Act 2 of undoing ends the newest record: the seen 71 went into it, not the kept 70.
    x.arm(2, ALL_WORDS);
    due("abort()", x.abort(), LOST);
    due("kept(7)", x.kept(7), 71);
    due("kept(8)", x.kept(8), 80);
    due("recover()", x.recover(), DONE);
    due("seen(7)", x.seen(7), 70);
  }

  private static void snapshotLosesPowerAtEachAct() {
    for (int n = 1; n <= 8; n++) {
      for (int act = 1; act <= n + 4; act++) {
        for (int bit = 0; bit < 2; bit++) {
          FencedWords x = opened();
          x.snapshot(3, 2);
          x.store(3, 33);
          x.arm(act, (bit == 1 ? RECORD_BIT : ~RECORD_BIT) & ~ALL_WORDS);
          due("snapshot(8, " + n + ") lost at act " + act, x.snapshot(8, n), LOST);
          boolean stays = act == n + 4 || act >= n + 2 && bit == 1;
          due("records() at act " + act + " bit " + bit, x.records(), stays ? 2 : 1);
          due("taken() at act " + act + " bit " + bit, x.taken(), stays ? 3 + n + 1 : 3);
          due("meter()", x.meter(), 7 + act);
          due("open()", x.open(), false);
          due("on()", x.on(), false);
          due("kept(3)", x.kept(3), 0);
          due("recover()", x.recover(), DONE);
          int lines = stays ? 2 : 1;
          due("meter() after recover", x.meter(), 7 + act + 2 + (stays ? n : 0) + lines + 1 + 3);
        }
      }
    }
  }

  // A record that outlived a loss is kept: the next loss, with bit 32 at 0, leaves it.
  private static void outlivedRecordIsKept() {
    FencedWords x = filled(4, 1, 40);
    x.begin();
    x.arm(3, RECORD_BIT);
    due("snapshot(4, 1)", x.snapshot(4, 1), LOST);
    due("records()", x.records(), 1);
    x.arm(1, 0);
    due("recover()", x.recover(), LOST);
    due("records()", x.records(), 1);
    due("taken()", x.taken(), 2);
    due("recover()", x.recover(), DONE);
    due("seen(4)", x.seen(4), 40);
    due("records()", x.records(), 0);
  }

  private static void storeRefusals() {
    FencedWords x = new FencedWords();
    due("store(0, 1) with none open", x.store(0, 1), REFUSED);
    x.begin();
    due("store(0, 1), not covered", x.store(0, 1), REFUSED);
    x.snapshot(4, 3);
    int[] bad = {3, 7, 0, 31, -1, 32, Integer.MIN_VALUE, Integer.MAX_VALUE};
    for (int a : bad) {
      due("store(" + a + ", 1)", x.store(a, 1), REFUSED);
    }
    due("meter()", x.meter(), 7);
    x.commit();
    due("store(4, 1) after commit", x.store(4, 1), REFUSED);
    x.begin();
    due("store(4, 1), covered before only", x.store(4, 1), REFUSED);
    due("seen(4)", x.seen(4), 0);
    x.arm(1, 0);
    x.snapshot(4, 1);
    due("store(4, 1) when off", x.store(4, 1), REFUSED);
  }

  private static void storeOfCoveredWords() {
    FencedWords x = opened();
    x.snapshot(6, 4);
    x.snapshot(31, 1);
    for (int a = 6; a <= 9; a++) {
      due("store(" + a + ")", x.store(a, -a), DONE);
      due("seen(" + a + ")", x.seen(a), -a);
      due("kept(" + a + ")", x.kept(a), 0);
    }
    due("store(31, min)", x.store(31, Long.MIN_VALUE), DONE);
    due("seen(31)", x.seen(31), Long.MIN_VALUE);
    due("store(31, max)", x.store(31, Long.MAX_VALUE), DONE);
    due("seen(31)", x.seen(31), Long.MAX_VALUE);
    due("seen(5)", x.seen(5), 0);
    due("seen(10)", x.seen(10), 0);
    due("meter()", x.meter(), 8 + 5 + 6);
  }

  private static void storeLosesPower() {
    for (int a = 0; a < 32; a++) {
      for (int w = 0; w < 2; w++) {
        FencedWords x = opened();
        x.snapshot(a, 1);
        x.arm(1, w == 1 ? 1L << a : ~(1L << a));
        due("store(" + a + ", 9)", x.store(a, 9), LOST);
        due("kept(" + a + ")", x.kept(a), w == 1 ? 9 : 0);
        due("records()", x.records(), 1);
        due("recover()", x.recover(), DONE);
        due("seen(" + a + ")", x.seen(a), 0);
        due("kept(" + a + ")", x.kept(a), 0);
      }
    }
  }

  private static void commitWithoutStores() {
    FencedWords x = new FencedWords();
    due("commit() with none open", x.commit(), REFUSED);
    x.begin();
    x.arm(1, 0);
    due("commit() with nothing to do", x.commit(), DONE);
    due("meter()", x.meter(), 0);
    due("open()", x.open(), false);
    x.arm(0, 0);
    x.begin();
    x.snapshot(0, 8);
    due("commit() without stores", x.commit(), DONE);
    due("meter()", x.meter(), 12 + 3);
    due("records()", x.records(), 0);
    due("taken()", x.taken(), 0);
    due("commit() again", x.commit(), REFUSED);
  }

  private static void commitFlushesStoredLines() {
    for (int lines = 1; lines < 16; lines++) {
      FencedWords x = opened();
      int before = 0;
      for (int l = 3; l >= 0; l--) {
        x.snapshot(8 * l, 8);
        before += 12;
        if ((lines >> l & 1) != 0) {
          x.store(8 * l, l + 1);
          x.store(8 * l + 7, 0);
          before += 2;
        }
      }
      due("commit()", x.commit(), DONE);
      due("meter() for lines " + lines, x.meter(), before + Integer.bitCount(lines) + 1 + 3);
      for (int l = 0; l < 4; l++) {
        due("kept(" + 8 * l + ")", x.kept(8 * l), (lines >> l & 1) != 0 ? l + 1 : 0);
      }
      due("open()", x.open(), false);
    }
  }

  private static void commitForgetsEarlierStores() {
    FencedWords x = filled(0, 1, 5);
    int before = x.meter();
    x.begin();
    x.snapshot(8, 1);
    x.store(8, 6);
    due("commit()", x.commit(), DONE);
    due("meter()", x.meter(), before + 5 + 1 + 1 + 1 + 3);
    before = x.meter();
    x.begin();
    x.snapshot(8, 1);
    x.store(8, 7);
    due("abort()", x.abort(), DONE);
    x.begin();
    due("commit() after an abort", x.commit(), DONE);
    due("meter()", x.meter(), before + 5 + 1 + 1 + 1 + 1 + 3);
    before = x.meter();
    x.begin();
    x.snapshot(8, 1);
    x.arm(1, 0);
    due("store(8, 7)", x.store(8, 7), LOST);
    due("recover()", x.recover(), DONE);
    x.begin();
    due("commit() after a loss", x.commit(), DONE);
    due("meter()", x.meter(), before + 5 + 1 + 1 + 1 + 1 + 3);
  }

  // Two stored lines: act 1 and 2 flush, 3 is the fence, 4 and 5 cross out, 6 ends the log.
  private static void commitLosesPowerAtEachAct() {
    for (int act = 1; act <= 6; act++) {
      for (int bit = 0; bit < 2; bit++) {
        FencedWords x = filled(7, 2, 70);
        int before = x.meter() + 6 + 2;
        x.begin();
        x.snapshot(7, 2);
        x.store(8, 801);
        x.store(7, 701);
        // Word 7 of the mask is 1: what was not fenced comes through for it alone.
        x.arm(act, 1L << 7 | (bit == 1 ? CROSSED_BIT : RECORD_BIT));
        due("commit() lost at act " + act, x.commit(), LOST);
        due("meter()", x.meter(), before + act);
        due("kept(7)", x.kept(7), 701);
        due("kept(8)", x.kept(8), act >= 3 ? 801 : 71);
        boolean gone = act == 6 || act >= 4 && bit == 1;
        due("records() at act " + act + " bit " + bit, x.records(), gone ? 0 : 1);
        due("open()", x.open(), false);
        due("on()", x.on(), false);
        due("recover()", x.recover(), DONE);
        due("seen(7)", x.seen(7), gone ? 701 : 70);
        due("seen(8)", x.seen(8), gone ? 801 : 71);
        due("kept(8)", x.kept(8), gone ? 801 : 71);
      }
    }
  }

  private static void abortPutsBack() {
    FencedWords x = filled(5, 6, 50);
    due("abort() with none open", x.abort(), REFUSED);
    x.begin();
    x.snapshot(5, 6);
    for (int a = 5; a < 11; a++) {
      x.store(a, 1000 + a);
    }
    x.snapshot(7, 2);
    x.store(7, -7);
    due("abort()", x.abort(), DONE);
    for (int a = 5; a < 11; a++) {
      due("seen(" + a + ")", x.seen(a), 45 + a);
      due("kept(" + a + ")", x.kept(a), 45 + a);
    }
    due("open()", x.open(), false);
    due("records()", x.records(), 0);
    due("taken()", x.taken(), 0);
    due("abort() again", x.abort(), REFUSED);
  }

  private static void abortWithoutRecords() {
    FencedWords x = opened();
    x.arm(1, 0);
    due("abort() without records", x.abort(), DONE);
    due("open()", x.open(), false);
    due("meter()", x.meter(), 0);
  }

  // What is kept after each act of undoing tells the order of its stores.
  private static void abortStoresInOrder() {
    long[][] keptAfter = {{100, 200, 12}, {100, 11, 12}, {10, 11, 12}};
    for (int act = 1; act <= 3; act++) {
      FencedWords x = filled(0, 3, 10);
      x.begin();
      x.snapshot(0, 1);
      x.store(0, 100);
      x.snapshot(0, 2);
      x.store(1, 200);
      x.store(0, 300);
      x.arm(act, ALL_WORDS);
      due("abort() lost at act " + act, x.abort(), LOST);
      for (int a = 0; a < 3; a++) {
        due("kept(" + a + ") at act " + act, x.kept(a), keptAfter[act - 1][a]);
      }
      due("records()", x.records(), 2);
    }
  }

  // Lines with a word of a record are flushed, stored to or not, each once.
  private static void abortFlushesLinesOfRecords() {
    FencedWords x = opened();
    x.snapshot(20, 8);
    x.snapshot(2, 1);
    x.snapshot(30, 2);
    int before = x.meter();
    due("abort()", x.abort(), DONE);
    due("meter()", x.meter(), before + 11 + 3 + 1 + 3);

    x = opened();
    x.snapshot(9, 7);
    before = x.meter();
    due("abort()", x.abort(), DONE);
    due("meter() for one line", x.meter(), before + 7 + 1 + 1 + 3);

    // Acts 1 and 2 store, 3 and 4 flush, 5 is the fence, 6 to 8 clear the log.
    for (int act = 1; act <= 8; act++) {
      x = filled(7, 2, 70);
      x.begin();
      x.snapshot(7, 2);
      x.store(7, 1);
      x.store(8, 2);
      x.arm(act, ALL_WORDS);
      due("abort() lost at act " + act, x.abort(), LOST);
      due("kept(7) at act " + act, x.kept(7), 70);
      due("kept(8) at act " + act, x.kept(8), act == 1 ? 2 : 71);
      due("records() at act " + act, x.records(), act < 8 ? 1 : 0);
      due("open()", x.open(), false);
    }
  }

  private static void recoverRefusedWhenOn() {
    FencedWords x = new FencedWords();
    due("recover() when on", x.recover(), REFUSED);
    x.begin();
    x.snapshot(0, 1);
    x.store(0, 5);
    due("recover() when on", x.recover(), REFUSED);
    due("open()", x.open(), true);
    due("seen(0)", x.seen(0), 5);
    due("records()", x.records(), 1);
  }

  private static void recoverWithoutRecords() {
    FencedWords x = opened();
    x.arm(1, 0);
    due("snapshot(0, 1)", x.snapshot(0, 1), LOST);
    due("records()", x.records(), 0);
    x.arm(1, 0);
    due("recover()", x.recover(), DONE);
    due("on()", x.on(), true);
    due("open()", x.open(), false);
    due("meter()", x.meter(), 1);
    x.begin();
    due("snapshot(0, 1), still armed", x.snapshot(0, 1), LOST);
  }

  private static void recoverReadsKeptValues() {
    FencedWords x = filled(16, 8, 160);
    x.begin();
    x.snapshot(16, 8);
    for (int a = 16; a < 24; a++) {
      x.store(a, a);
    }
    // Act 1 flushes, 2 is the fence, 3 crosses the record out; bit 33 drops it.
    x.arm(3, CROSSED_BIT);
    due("commit()", x.commit(), LOST);
    for (int a = 16; a < 24; a++) {
      due("seen(" + a + ") when off", x.seen(a), 0);
      due("kept(" + a + ") when off", x.kept(a), a);
    }
    due("recover()", x.recover(), DONE);
    for (int a = 16; a < 24; a++) {
      due("seen(" + a + ")", x.seen(a), a);
    }
    x.begin();
    x.snapshot(16, 1);
    x.store(16, 99);
    // The record of word 17 is gone with the loss, and what was stored to 16 is not kept.
    x.arm(1, 0);
    due("snapshot(17, 1)", x.snapshot(17, 1), LOST);
    due("recover()", x.recover(), DONE);
    due("seen(16)", x.seen(16), 16);
    x.begin();
    x.snapshot(16, 2);
    x.store(17, 99);
    x.arm(1, 0);
    due("store(16, 99)", x.store(16, 99), LOST);
    // Word 17 was seen as 99 before the loss, and is not so in the recovery that a loss cuts short.
    x.arm(1, ALL_WORDS);
    due("recover()", x.recover(), LOST);
    due("kept(17)", x.kept(17), 17);
  }

  private static void recoverLosesPowerAgainAndAgain() {
    FencedWords x = filled(6, 4, 60);
    x.begin();
    x.snapshot(6, 4);
    for (int a = 6; a < 10; a++) {
      x.store(a, -a);
    }
    x.arm(1, ALL_WORDS);
    due("store(6, 1)", x.store(6, 1), LOST);
    int before = x.meter();
    // 4 stores, 2 flushes, the fence: the record stays through all of them.
    for (int act = 1; act <= 7; act++) {
      x.arm(act, 0);
      due("recover() lost at act " + act, x.recover(), LOST);
      due("on()", x.on(), false);
      due("open()", x.open(), false);
      due("records()", x.records(), 1);
      due("kept(6) at act " + act, x.kept(6), act < 7 ? 1 : 60);
      due("kept(9) at act " + act, x.kept(9), act < 7 ? -9 : 63);
    }
    due("meter()", x.meter(), before + 28);
    x.arm(10, 0);
    due("recover() lost at its last act", x.recover(), LOST);
    due("records()", x.records(), 0);
    due("recover()", x.recover(), DONE);
    due("meter()", x.meter(), before + 38);
    for (int a = 6; a < 10; a++) {
      due("seen(" + a + ")", x.seen(a), 54 + a);
      due("kept(" + a + ")", x.kept(a), 54 + a);
    }
  }

  // Records that stayed are crossed out no more: bit 33 of a later loss, before
  // they are crossed out anew, leaves them.
  private static void crossedOutRecordsThatStay() {
    for (int act = 1; act <= 2; act++) {
      FencedWords x = opened();
      x.snapshot(9, 1);
      x.snapshot(17, 2);
      x.arm(act, ~CROSSED_BIT);
      due("commit()", x.commit(), LOST);
      due("records()", x.records(), 2);
      due("taken()", x.taken(), 5);
      x.arm(6, CROSSED_BIT);
      due("recover()", x.recover(), LOST);
      due("records()", x.records(), 2);
      x.arm(6 + act, CROSSED_BIT);
      due("recover()", x.recover(), LOST);
      due("records()", x.records(), 0);
      due("taken()", x.taken(), 0);
      due("recover()", x.recover(), DONE);
    }
  }

  private static void onTellsThePower() {
    FencedWords x = new FencedWords();
    due("on()", x.on(), true);
    x.arm(2, 0);
    due("on() when armed", x.on(), true);
    x.begin();
    x.snapshot(0, 1);
    due("on() after the loss", x.on(), false);
    x.begin();
    due("on() after a refused begin", x.on(), false);
    x.arm(0, 0);
    due("on() after arm", x.on(), false);
    x.recover();
    due("on() after recover", x.on(), true);
  }

  private static void openTellsTheTransaction() {
    FencedWords x = new FencedWords();
    due("open()", x.open(), false);
    x.begin();
    due("open() after begin", x.open(), true);
    x.snapshot(0, 1);
    x.store(0, 1);
    x.store(1, 1);
    due("open() after store", x.open(), true);
    x.commit();
    due("open() after commit", x.open(), false);
    x.begin();
    x.abort();
    due("open() after abort", x.open(), false);
    x.begin();
    x.arm(1, 0);
    x.snapshot(0, 1);
    due("open() after a loss", x.open(), false);
    x.recover();
    due("open() after recover", x.open(), false);
  }

  private static void seenOfNoWord() {
    FencedWords x = filled(31, 1, 310);
    int[] bad = {-1, 32, 33, Integer.MIN_VALUE, Integer.MAX_VALUE};
    for (int a : bad) {
      due("seen(" + a + ")", x.seen(a), 0);
    }
    due("seen(31)", x.seen(31), 310);
    x.begin();
    x.arm(1, 0);
    x.snapshot(0, 1);
    due("seen(31) when off", x.seen(31), 0);
    due("seen(-1) when off", x.seen(-1), 0);
    x.recover();
    due("seen(31) when on again", x.seen(31), 310);
  }

  private static void keptOfNoWord() {
    FencedWords x = filled(31, 1, 310);
    int[] bad = {-1, 32, 33, Integer.MIN_VALUE, Integer.MAX_VALUE};
    for (int a : bad) {
      due("kept(" + a + ")", x.kept(a), 0);
    }
    due("kept(31)", x.kept(31), 310);
    x.begin();
    x.arm(1, 0);
    x.snapshot(0, 1);
    due("kept(31) when off", x.kept(31), 310);
    due("kept(32) when off", x.kept(32), 0);
  }

  private static void recordsAreCounted() {
    FencedWords x = opened();
    for (int i = 1; i <= 13; i++) {
      x.snapshot(0, 2);
      due("records()", x.records(), i);
    }
    x.snapshot(0, 2);
    due("records() after a refused one", x.records(), 13);
    x.arm(1, 0);
    x.store(0, 1);
    due("records() when off", x.records(), 13);
    x.recover();
    due("records() after recover", x.records(), 0);
  }

  private static void takenCounts() {
    FencedWords x = opened();
    int cells = 0;
    for (int n = 1; n <= 7; n++) {
      x.snapshot(n, n);
      cells += n + 1;
      due("taken()", x.taken(), cells);
    }
    due("snapshot(0, 5) with 5 cells left", x.snapshot(0, 5), REFUSED);
    due("taken()", x.taken(), 35);
    due("snapshot(0, 4) with 5 cells left", x.snapshot(0, 4), DONE);
    due("taken()", x.taken(), 40);
    x.arm(1, 0);
    x.store(0, 1);
    due("taken() when off", x.taken(), 40);
    x.recover();
    due("taken() after recover", x.taken(), 0);
  }

  private static void meterCounts() {
    FencedWords x = new FencedWords();
    x.arm(0, 0);
    x.begin();
    x.seen(0);
    x.kept(0);
    x.on();
    x.open();
    x.records();
    x.taken();
    due("meter() after calls without acts", x.meter(), 0);
    for (int n = 1; n <= 8; n++) {
      int before = x.meter();
      x.snapshot(0, n);
      due("meter() of a snapshot of " + n, x.meter(), before + (n <= 7 ? n + 4 : 0));
    }
    due("meter()", x.meter(), 56);
    x.store(0, 1);
    due("meter() after a store", x.meter(), 57);
    x.abort();
    due("meter() after an abort", x.meter(), 57 + 28 + 1 + 1 + 3);
    x.begin();
    x.snapshot(0, 1);
    x.arm(1, 0);
    x.store(0, 1);
    due("meter() counts the act of the loss", x.meter(), 90 + 5 + 1);
    x.begin();
    x.store(0, 1);
    due("meter() when off", x.meter(), 96);
    x.recover();
    due("meter() after recover", x.meter(), 96 + 1 + 1 + 1 + 3);
  }
}
