import java.util.ArrayList;
import java.util.List;
import java.util.Random;

/**
 * Runs of calls, drawn from fixed seeds, against a second telling of the document: a call is first
 * written down as the whole list of its acts, then the acts are done one by one.
 */
public final class FencedWordsModel {
  private static final int RUNS = 40000;
  // Nothing is promised about an object after so many calls, questions included.
  private static final int MOST_CALLS = 512;
  private static final int CALLS_A_STEP = 8;
  private static final int CALLS_AT_THE_END = 73;

  private enum Kind { STORE, FLUSH, FENCE, NOTHING, WRITE, KEEP, CROSS, GONE }

  private record Act(Kind kind, int a, long v, Entry entry) { }

  private static final class Entry {
    private final int a;
    private final long[] old;
    private boolean kept;
    private boolean crossed;

    private Entry(int a, long[] old) {
      this.a = a;
      this.old = old;
    }

    private boolean has(int w) {
      return w >= a && w < a + old.length;
    }
  }

  private static final class Model {
    private final long[] seen = new long[32];
    private final long[] kept = new long[32];
    private final List<Integer> flushed = new ArrayList<>();
    private List<Entry> log = new ArrayList<>();
    private final boolean[] stored = new boolean[32];
    private boolean on = true;
    private boolean open;
    private boolean armed;
    private long failAt;
    private long mask;
    private int meter;

    private boolean arm(int n, long m) {
      if (n < 0 || n > 500) {
        return false;
      }
      armed = n != 0;
      failAt = (long) meter + n;
      mask = m;
      return true;
    }

    private int begin() {
      if (!on || open) {
        return -1;
      }
      open = true;
      java.util.Arrays.fill(stored, false);
      return 0;
    }

    private int snapshot(int a, int n) {
      if (!open || n < 1 || n > 8 || a < 0 || (long) a + n > 32 || 40 - cells() < n + 1) {
        return -1;
      }
      Entry entry = new Entry(a, java.util.Arrays.copyOfRange(seen, a, a + n));
      List<Act> acts = new ArrayList<>();
      for (int i = 1; i <= n + 4; i++) {
        Kind kind = i == n + 2 ? Kind.WRITE : i == n + 4 ? Kind.KEEP : Kind.NOTHING;
        acts.add(new Act(kind, 0, 0, entry));
      }
      return doAll(acts);
    }

    private int store(int a, long v) {
      if (!open || a < 0 || a > 31 || log.stream().noneMatch(e -> e.has(a))) {
        return -1;
      }
      stored[a] = true;
      return doAll(List.of(new Act(Kind.STORE, a, v, null)));
    }

    private int commit() {
      if (!open) {
        return -1;
      }
      List<Act> acts = new ArrayList<>();
      planKeeping(acts, stored);
      planClearing(acts);
      int answer = doAll(acts);
      open = false;
      return answer;
    }

    private int abort() {
      if (!open) {
        return -1;
      }
      int answer = doAll(undoing());
      open = false;
      return answer;
    }

    private int recover() {
      if (on) {
        return -1;
      }
      on = true;
      System.arraycopy(kept, 0, seen, 0, 32);
      return doAll(undoing());
    }

    private int cells() {
      return log.stream().mapToInt(e -> e.old.length + 1).sum();
    }

    private List<Act> undoing() {
      List<Act> acts = new ArrayList<>();
      boolean[] words = new boolean[32];
      for (int r = log.size() - 1; r >= 0; r--) {
        Entry e = log.get(r);
        for (int i = 0; i < e.old.length; i++) {
          acts.add(new Act(Kind.STORE, e.a + i, e.old[i], null));
          words[e.a + i] = true;
        }
      }
      planKeeping(acts, words);
      planClearing(acts);
      return acts;
    }

    private void planKeeping(List<Act> acts, boolean[] words) {
      int lastLine = -1;
      for (int w = 0; w < 32; w++) {
        if (words[w] && w / 8 != lastLine) {
          lastLine = w / 8;
          acts.add(new Act(Kind.FLUSH, lastLine, 0, null));
        }
      }
      if (lastLine >= 0) {
        acts.add(new Act(Kind.FENCE, 0, 0, null));
      }
    }

    private void planClearing(List<Act> acts) {
      if (!log.isEmpty()) {
        acts.add(new Act(Kind.CROSS, 0, 0, null));
        acts.add(new Act(Kind.NOTHING, 0, 0, null));
        acts.add(new Act(Kind.GONE, 0, 0, null));
      }
    }

    private int doAll(List<Act> acts) {
      for (Act act : acts) {
        doOne(act);
        meter++;
        if (armed && meter == failAt) {
          fail();
          return -2;
        }
      }
      return 0;
    }

    private void doOne(Act act) {
      switch (act.kind) {
        case STORE -> seen[act.a] = act.v;
        case FLUSH -> flushed.add(act.a);
        case FENCE -> fence();
        case WRITE -> log.add(act.entry);
        case KEEP -> {
          act.entry.kept = true;
          fence();
        }
        case CROSS -> log.forEach(e -> e.crossed = true);
        case GONE -> {
          log.clear();
          fence();
        }
        default -> { }
      }
    }

    private void fence() {
      for (int line : flushed) {
        System.arraycopy(seen, 8 * line, kept, 8 * line, 8);
      }
      flushed.clear();
    }

    private void fail() {
      for (int w = 0; w < 32; w++) {
        if (seen[w] != kept[w] && (mask >> w & 1) == 1) {
          kept[w] = seen[w];
        }
      }
      List<Entry> left = new ArrayList<>();
      for (Entry e : log) {
        boolean goes = !e.kept && (mask >> 32 & 1) == 0 || e.crossed && (mask >> 33 & 1) == 1;
        if (!goes) {
          e.kept = true;
          e.crossed = false;
          left.add(e);
        }
      }
      log = left;
      on = false;
      open = false;
      armed = false;
      flushed.clear();
    }
  }

  private static int wrong = 0;
  private static final int[] answers = new int[3];

  public static void main(String[] args) {
    for (int run = 0; run < RUNS && wrong < 20; run++) {
      oneRun(run);
    }
    System.out.println(answers[0] + " answers DONE, " + answers[1] + " REFUSED, " + answers[2] + " LOST");
    if (answers[0] == 0 || answers[1] == 0 || answers[2] == 0) {
      wrong++;
      System.out.println("the runs do not reach every answer");
    }
    System.out.println(wrong == 0 ? "all answers are as due" : "answers are not as due");
    if (wrong != 0) {
      System.exit(1);
    }
  }

  private static void oneRun(int run) {
    Random random = new Random(run);
    FencedWords x = new FencedWords();
    Model m = new Model();
    boolean rough = run % 4 == 0;
    int steps = (MOST_CALLS - CALLS_AT_THE_END) / CALLS_A_STEP;
    for (int step = 0; step < steps && wrong < 20; step++) {
      oneCall(run, step, random, rough, x, m);
      compareWord(run, step, random.nextInt(34) - 1, x, m);
      compareRest(run, step, x, m);
    }
    for (int w = -1; w <= 32; w++) {
      compareWord(run, steps, w, x, m);
    }
    compareRest(run, steps, x, m);
  }

  private static void oneCall(int run, int step, Random random, boolean rough, FencedWords x, Model m) {
    int a = random.nextInt(rough ? 36 : 32) - (rough ? 2 : 0);
    int n = random.nextInt(rough ? 11 : 8) + (rough ? -1 : 1);
    if (!rough && a + n > 32) {
      a = 32 - n;
    }
    if (rough && random.nextInt(50) == 0) {
      a = random.nextInt();
    }
    if (rough && random.nextInt(50) == 0) {
      n = random.nextInt();
    }
    long v = random.nextInt(3) == 0 ? random.nextLong() : random.nextInt(4);
    int kind = random.nextInt(20);
    if (!m.on && random.nextInt(3) > 0) {
      kind = 19;
    } else if (m.on && !m.open && random.nextInt(3) > 0) {
      kind = 2;
    }
    if (kind < 2) {
      int acts = random.nextInt(8) == 0 ? random.nextInt(520) - 10 : random.nextInt(25);
      long mask = random.nextInt(3) == 0 ? -random.nextInt(2) : random.nextLong();
      due(run, step, "arm(" + acts + ", " + mask + ")", x.arm(acts, mask) ? 1 : 0, m.arm(acts, mask) ? 1 : 0);
    } else if (kind < 3) {
      count(run, step, "begin()", x.begin(), m.begin());
    } else if (kind < 8) {
      count(run, step, "snapshot(" + a + ", " + n + ")", x.snapshot(a, n), m.snapshot(a, n));
    } else if (kind < 17) {
      count(run, step, "store(" + a + ", " + v + ")", x.store(a, v), m.store(a, v));
    } else if (kind < 18) {
      count(run, step, "commit()", x.commit(), m.commit());
    } else if (kind < 19) {
      count(run, step, "abort()", x.abort(), m.abort());
    } else {
      count(run, step, "recover()", x.recover(), m.recover());
    }
  }

  private static void count(int run, int step, String text, int got, int want) {
    answers[-want]++;
    due(run, step, text, got, want);
  }

  private static void compareWord(int run, int step, int w, FencedWords x, Model m) {
    boolean word = w >= 0 && w < 32;
    due(run, step, "seen(" + w + ")", x.seen(w), word && m.on ? m.seen[w] : 0);
    due(run, step, "kept(" + w + ")", x.kept(w), word ? m.kept[w] : 0);
  }

  private static void compareRest(int run, int step, FencedWords x, Model m) {
    due(run, step, "on()", x.on() ? 1 : 0, m.on ? 1 : 0);
    due(run, step, "open()", x.open() ? 1 : 0, m.open ? 1 : 0);
    due(run, step, "records()", x.records(), m.log.size());
    due(run, step, "taken()", x.taken(), m.cells());
    due(run, step, "meter()", x.meter(), m.meter);
  }

  private static void due(int run, int step, String text, long got, long want) {
    if (got != want) {
      wrong++;
      System.out.println("run " + run + ", step " + step + ": " + text + " answered " + got + ", due is " + want);
    }
  }
}
