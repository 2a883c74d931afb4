/** Words that outlive a loss of power, with transactions that an undo log makes whole again. */
public final class FencedWords {
  public static final int DONE = 0, REFUSED = -1, LOST = -2;

  private static final int WORDS = 32;
  private static final int WORDS_A_LINE = 8;
  private static final int LINES = 4;
  private static final int CELLS = 40;
  // A record takes two cells at least.
  private static final int MOST_RECORDS = 20;
  private static final int MOST_WORDS_A_RECORD = 8;
  private static final int MOST_ACTS_ARMED = 500;
  private static final int BIT_OF_WRITTEN_RECORD = 32;
  private static final int BIT_OF_CROSSED_OUT_RECORDS = 33;

  private final long[] seenValues;
  private final long[] keptValues;
  private final Log log;
  private boolean powerOn;
  private boolean transactionOpen;
  // Sets of lines: bit l stands for line l.
  private int flushedLines;
  private int storedLines;
  // 0 when the power is not armed.
  private int actsUntilLoss;
  private long maskOfLoss;
  private int actsDone;

  public FencedWords() {
    seenValues = new long[WORDS];
    keptValues = new long[WORDS];
    log = new Log();
    powerOn = true;
  }

  public boolean arm(int n, long mask) {
    if (n < 0 || n > MOST_ACTS_ARMED) {
      return false;
    }
    actsUntilLoss = n;
    maskOfLoss = mask;
    return true;
  }

  public int begin() {
    if (!powerOn || transactionOpen) {
      return REFUSED;
    }
    transactionOpen = true;
    storedLines = 0;
    return DONE;
  }

  public int snapshot(int a, int n) {
    if (!transactionOpen || !areWords(a, n) || !log.hasRoomFor(n)) {
      return REFUSED;
    }
    return append(a, n) ? DONE : LOST;
  }

  public int store(int a, long v) {
    if (!transactionOpen || !isWord(a) || !log.covers(a)) {
      return REFUSED;
    }
    storedLines |= 1 << lineOf(a);
    return storeValue(a, v) ? DONE : LOST;
  }

  public int commit() {
    if (!transactionOpen) {
      return REFUSED;
    }
    if (!keepLines(storedLines) || !clearLog()) {
      return LOST;
    }
    transactionOpen = false;
    return DONE;
  }

  public int abort() {
    if (!transactionOpen) {
      return REFUSED;
    }
    if (!undo()) {
      return LOST;
    }
    transactionOpen = false;
    return DONE;
  }

  public int recover() {
    if (powerOn) {
      return REFUSED;
    }
    powerOn = true;
    System.arraycopy(keptValues, 0, seenValues, 0, WORDS);
    return undo() ? DONE : LOST;
  }

  public boolean on() {
    return powerOn;
  }

  public boolean open() {
    return transactionOpen;
  }

  public long seen(int a) {
    return powerOn && isWord(a) ? seenValues[a] : 0;
  }

  public long kept(int a) {
    return isWord(a) ? keptValues[a] : 0;
  }

  public int records() {
    return log.size;
  }

  public int taken() {
    return log.cellsTaken;
  }

  public int meter() {
    return actsDone;
  }

  private static boolean isWord(int a) {
    return a >= 0 && a < WORDS;
  }

  // The last word is not reckoned as a + n - 1, which could wrap around.
  private static boolean areWords(int a, int n) {
    return n >= 1 && n <= MOST_WORDS_A_RECORD && a >= 0 && a <= WORDS - n;
  }

  private static int lineOf(int a) {
    return a / WORDS_A_LINE;
  }

  private static boolean hasBit(long bits, int bit) {
    return (bits >>> bit & 1L) != 0;
  }

  // The methods from here to endAct tell whether the power is still on: as soon
  // as one of them answers false, nothing more of the call is done.

  private boolean append(int a, int n) {
    if (!doPlainActs(n + 1)) {
      return false;
    }
    log.write(a, n, seenValues);
    if (!doPlainActs(2)) {
      return false;
    }
    log.keepNewest();
    return fence();
  }

  private boolean clearLog() {
    if (log.size == 0) {
      return true;
    }
    log.crossOut();
    if (!doPlainActs(2)) {
      return false;
    }
    log.dropAll();
    return fence();
  }

  private boolean undo() {
    return storeOldValues() && keepLines(log.coveredLines()) && clearLog();
  }

  private boolean storeOldValues() {
    for (int r = log.size - 1; r >= 0; r--) {
      for (int i = 0; i < log.counts[r]; i++) {
        if (!storeValue(log.firsts[r] + i, log.oldValue(r, i))) {
          return false;
        }
      }
    }
    return true;
  }

  private boolean keepLines(int lines) {
    if (lines == 0) {
      return true;
    }
    for (int line = 0; line < LINES; line++) {
      if (hasBit(lines, line) && !flush(line)) {
        return false;
      }
    }
    return fence();
  }

  private boolean storeValue(int a, long v) {
    seenValues[a] = v;
    return endAct();
  }

  private boolean flush(int line) {
    flushedLines |= 1 << line;
    return endAct();
  }

  private boolean fence() {
    for (int a = 0; a < WORDS; a++) {
      if (hasBit(flushedLines, lineOf(a))) {
        keptValues[a] = seenValues[a];
      }
    }
    flushedLines = 0;
    return endAct();
  }

  // Acts on the log of which only the number matters.
  private boolean doPlainActs(int n) {
    for (int i = 0; i < n; i++) {
      if (!endAct()) {
        return false;
      }
    }
    return true;
  }

  private boolean endAct() {
    actsDone++;
    if (actsUntilLoss == 0) {
      return true;
    }
    actsUntilLoss--;
    if (actsUntilLoss > 0) {
      return true;
    }
    losePower();
    return false;
  }

  private void losePower() {
    for (int a = 0; a < WORDS; a++) {
      if (hasBit(maskOfLoss, a)) {
        keptValues[a] = seenValues[a];
      }
    }
    boolean writtenOutlives = hasBit(maskOfLoss, BIT_OF_WRITTEN_RECORD);
    boolean crossedOutGoes = hasBit(maskOfLoss, BIT_OF_CROSSED_OUT_RECORDS);
    log.settle(writtenOutlives, crossedOutGoes);
    powerOn = false;
    transactionOpen = false;
    flushedLines = 0;
  }

  /** The records, the oldest first, in rows that are made once. */
  private static final class Log {
    private final int[] firsts;
    private final int[] counts;
    private final int[] startCells;
    // The first cell of a record stands for its word and count, the others hold its old values.
    private final long[] cells;
    private int size;
    private int cellsTaken;
    private boolean newestNotKept;
    private boolean crossedOut;

    Log() {
      firsts = new int[MOST_RECORDS];
      counts = new int[MOST_RECORDS];
      startCells = new int[MOST_RECORDS];
      cells = new long[CELLS];
    }

    boolean hasRoomFor(int n) {
      return n + 1 <= CELLS - cellsTaken;
    }

    boolean covers(int a) {
      for (int r = 0; r < size; r++) {
        if (a >= firsts[r] && a < firsts[r] + counts[r]) {
          return true;
        }
      }
      return false;
    }

    int coveredLines() {
      int lines = 0;
      for (int r = 0; r < size; r++) {
        // At most eight words in a row lie in the lines of the first and the last one.
        lines |= 1 << lineOf(firsts[r]);
        lines |= 1 << lineOf(firsts[r] + counts[r] - 1);
      }
      return lines;
    }

    long oldValue(int r, int i) {
      return cells[startCells[r] + 1 + i];
    }

    void write(int a, int n, long[] values) {
      firsts[size] = a;
      counts[size] = n;
      startCells[size] = cellsTaken;
      System.arraycopy(values, a, cells, cellsTaken + 1, n);
      cellsTaken += n + 1;
      size++;
      newestNotKept = true;
    }

    void keepNewest() {
      newestNotKept = false;
    }

    void crossOut() {
      crossedOut = true;
    }

    void dropAll() {
      size = 0;
      cellsTaken = 0;
      crossedOut = false;
    }

    // What a loss of power leaves in the log has outlived it: from then on it is
    // kept, and crossed out no more, so that the next loss does not ask for it again.
    void settle(boolean writtenOutlives, boolean crossedOutGoes) {
      if (newestNotKept && !writtenOutlives) {
        size--;
        cellsTaken = startCells[size];
      }
      if (crossedOut && crossedOutGoes) {
        size = 0;
        cellsTaken = 0;
      }
      newestNotKept = false;
      crossedOut = false;
    }
  }
}
