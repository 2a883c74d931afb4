/**
 * What the tests that go sentence by sentence share: each answer that is not the one that is due is
 * printed with the sentence that asks for it, and states that many tests start from are made here.
 */
final class Sentences {
  static final int DONE = 0, REFUSED = -1, LOST = -2;
  static final long WORD_BITS = 0xFFFFFFFFL;
  static final long BIT_32 = 1L << 32;
  static final long BIT_33 = 1L << 33;
  static final int[] NO_WORDS = {-1, 32, -32, 33, 63, 64, 256, Integer.MIN_VALUE, Integer.MIN_VALUE + 31, Integer.MAX_VALUE};

  interface Call {
    long on(FencedWords x);
  }

  private static String sentence = "";
  private static int sentences = 0;
  private static int answersOfSentence = 0;
  private static int wrong = 0;

  private Sentences() { }

  /** What is due from here on is asked for by this sentence. */
  static void says(String words) {
    endSentence();
    sentence = words;
    sentences++;
    answersOfSentence = 0;
  }

  static void due(String call, long got, long want) {
    answersOfSentence++;
    if (got != want) {
      tell(call + " answered " + got + ", due is " + want);
    }
  }

  static void due(String call, boolean got, boolean want) {
    due(call, got ? 1 : 0, want ? 1 : 0);
  }

  /** The call gives this answer and leaves everything that can be asked for as it was. */
  static void changesNothing(FencedWords x, String text, Call call, long want) {
    String before = picture(x);
    due(text, call.on(x), want);
    String after = picture(x);
    if (!after.equals(before)) {
      tell(text + " changed " + before + " to " + after);
    }
  }

  static void refused(FencedWords x, String text, Call call) {
    changesNothing(x, text, call, REFUSED);
  }

  static void end() {
    endSentence();
    System.out.println(sentences + " sentences: "
        + (wrong == 0 ? "all answers are as due" : wrong + " answers are not as due"));
    if (wrong != 0) {
      System.exit(1);
    }
  }

  private static void endSentence() {
    if (sentences > 0 && answersOfSentence == 0) {
      tell("nothing was asked");
    }
  }

  private static void tell(String text) {
    wrong++;
    System.out.println("\"" + sentence + "\": " + text);
  }

  private static String picture(FencedWords x) {
    StringBuilder text = new StringBuilder();
    for (int a = 0; a < 32; a++) {
      text.append(x.seen(a)).append('/').append(x.kept(a)).append(' ');
    }
    return text.append(x.on()).append(' ').append(x.open()).append(" records ").append(x.records())
        .append(" taken ").append(x.taken()).append(" meter ").append(x.meter()).toString();
  }

  static FencedWords opened() {
    FencedWords x = new FencedWords();
    due("begin()", x.begin(), DONE);
    return x;
  }

  /** The words a .. a + n - 1 hold base, base + 1 .., kept; no transaction is open. */
  static FencedWords filled(int a, int n, long base) {
    FencedWords x = opened();
    due("snapshot to fill", x.snapshot(a, n), DONE);
    for (int i = 0; i < n; i++) {
      due("store to fill", x.store(a + i, base + i), DONE);
    }
    due("commit to fill", x.commit(), DONE);
    return x;
  }

  /** Word a holds a + 100, kept, for all words; no transaction is open. */
  static FencedWords full() {
    FencedWords x = opened();
    for (int a = 0; a < 32; a += 8) {
      due("snapshot to fill", x.snapshot(a, 8), DONE);
    }
    for (int a = 0; a < 32; a++) {
      due("store to fill", x.store(a, a + 100), DONE);
    }
    due("commit to fill", x.commit(), DONE);
    return x;
  }

  /** The power is off, the log is empty, 1 act is done. */
  static FencedWords off() {
    FencedWords x = opened();
    x.arm(1, 0);
    due("snapshot to lose power", x.snapshot(0, 1), LOST);
    return x;
  }

  /** The power is off; a record of word 0 with the old value 10 is kept, the kept value is 20; 17 acts are done. */
  static FencedWords offWithRecord() {
    FencedWords x = filled(0, 1, 10);
    x.begin();
    x.snapshot(0, 1);
    x.arm(1, 1);
    due("store to lose power", x.store(0, 20), LOST);
    return x;
  }
}
