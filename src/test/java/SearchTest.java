import java.util.Arrays;
import java.util.HashMap;
import java.util.Map;
import java.util.Random;

/**
 * lay(), plan() and cut() at their full size, where the Model would try too many choices: drawn from fixed seeds, and
 * answered by searches of another make. An argument says how many times as many are drawn.
 */
public final class SearchTest {
  private static int wrong = 0;
  private static int asked = 0;
  private static int unable = 0;

  public static void main(String[] args) {
    int scale = args.length > 0 ? Integer.parseInt(args[0]) : 1;
    for (long seed = 1; seed <= 200L * scale && wrong < 5; seed++) new LayingCase(seed).play();
    tell("LAYINGS");
    for (long seed = 1; seed <= 200L * scale && wrong < 5; seed++) new PlanCase(seed).play();
    tell("PLANS");
    for (long seed = 1; seed <= 100L * scale && wrong < 5; seed++) cut(new Random(seed), seed);
    tell("CUTS");
    if (wrong != 0) System.exit(1);
  }

  private static void tell(String what) {
    System.out.println(asked + " " + what + " looked for, " + unable + " of them in vain, " + wrong + " answers not as due");
    asked = 0;
    unable = 0;
  }

  private static void due(String what, long seed, int got, int want) {
    if (got != want) {
      wrong++;
      System.out.println(what + " of seed " + seed + " answered " + got + ", due is " + want);
    }
  }

  private static void noteAnswer(int answer) {
    asked++;
    if (answer == -3) unable++;
  }

  /** TURNS, GAPS, AWAY and SCENES; answered by going up from no LOAD at all, with a map of what was tried. */
  private static final class LayingCase {
    final long seed;
    final Random random;
    final ToBeContinued x = new ToBeContinued();
    final int weeks;
    // Most TURNS may come in any WEEK: then one state of the THREADS is come to by many ways.
    final boolean wide;
    final int[] turns = new int[3], least = new int[3], most = new int[3];
    final int[][] minutes = new int[3][5], people = new int[3][5], first = new int[3][5], last = new int[3][5];
    final int[] load = new int[27], awayIn = new int[27];
    final int[][] at = new int[3][5];
    Map<Long, Boolean> tried;

    LayingCase(long seed) {
      this.seed = seed;
      random = new Random(seed);
      wide = random.nextBoolean();
      weeks = (wide ? 6 : 8) + random.nextInt(19);
    }

    void play() {
      x.weeks(weeks);
      for (int round = 0; round < 3; round++) {
        change();
        int want = search();
        noteAnswer(want);
        due("lay() " + round, seed, x.lay(), want);
        for (int t = 0; t < 3; t++) {
          for (int k = 0; k < 5; k++) {
            due("laid(" + t + ", " + k + ") " + round, seed, x.laid(t, k), want >= 0 && k < turns[t] ? at[t][k] : -1);
          }
        }
      }
    }

    /** The same object is laid again after other TURNS, so that nothing of the last search may be left. */
    void change() {
      for (int t = 0; t < 3; t++) {
        x.unturn(t);
        least[t] = wide && random.nextBoolean() ? 1 : 1 + random.nextInt(3);
        most[t] = wide && random.nextBoolean() ? 6 : Math.min(6, least[t] + random.nextInt(4));
        x.gap(t, least[t], most[t]);
        turns[t] = random.nextInt(8) == 0 ? 0 : 2 + random.nextInt(4);
        for (int k = 0; k < turns[t]; k++) {
          minutes[t][k] = 1 + random.nextInt(15);
          people[t][k] = random.nextInt(16) & random.nextInt(16);
          first[t][k] = 1 + random.nextInt(1 + k * weeks / 6);
          last[t][k] = Math.min(26, first[t][k] + weeks / 2 + random.nextInt(weeks));
          if (wide && random.nextInt(3) > 0) {
            first[t][k] = 1;
            last[t][k] = 26;
          }
          x.turn(t, minutes[t][k], people[t][k], first[t][k], last[t][k]);
        }
      }
      for (int i = 0; i < 8; i++) {
        int week = 1 + random.nextInt(weeks), person = random.nextInt(4);
        awayIn[week] ^= 1 << person;
        x.away(person, week);
      }
      for (int i = 0; i < 10; i++) {
        int week = 1 + random.nextInt(26), long1 = 1 + random.nextInt(15);
        load[week] += long1;
        x.scene(week, 0, long1, 0, 0);
      }
    }

    int search() {
      if (!under(100000)) return -3;
      int limit = 0;
      for (int w = 1; w <= weeks; w++) limit = Math.max(limit, load[w]);
      while (!under(limit)) limit++;
      for (int w = 1; w <= weeks; w++) {
        int mask = 0;
        while (!maskLeavesAWay(w, mask, limit)) mask++;
        for (int t = 0; t < 3; t++) if ((mask >> t & 1) == 1) at[t][laid(t, w)] = w;
      }
      return limit;
    }

    boolean under(int limit) {
      tried = new HashMap<>();
      for (int[] row : at) Arrays.fill(row, 99);
      boolean found = wayFrom(1, limit);
      for (int[] row : at) Arrays.fill(row, 99);
      return found;
    }

    /** How many TURNS of a THREAD are laid ahead of a WEEK. */
    int laid(int t, int week) {
      int n = 0;
      while (n < turns[t] && at[t][n] < week) n++;
      return n;
    }

    boolean wayFrom(int w, int limit) {
      if (w > weeks) return laid(0, w) == turns[0] && laid(1, w) == turns[1] && laid(2, w) == turns[2];
      long key = w;
      for (int t = 0; t < 3; t++) {
        int n = laid(t, w);
        key = key * 1000 + n * 100 + (n == 0 || n == turns[t] ? 0 : at[t][n - 1]);
      }
      Boolean known = tried.get(key);
      if (known != null) return known;
      boolean found = false;
      for (int mask = 0; mask < 8 && !found; mask++) found = maskLeavesAWay(w, mask, limit);
      tried.put(key, found);
      return found;
    }

    boolean maskLeavesAWay(int w, int mask, int limit) {
      int sum = load[w];
      for (int t = 0; t < 3; t++) {
        if ((mask >> t & 1) == 0) continue;
        int k = laid(t, w);
        if (k == turns[t] || w < first[t][k] || w > last[t][k] || (people[t][k] & awayIn[w]) != 0) return false;
        if (k > 0 && (w - at[t][k - 1] < least[t] || w - at[t][k - 1] > most[t])) return false;
        sum += minutes[t][k];
      }
      if (sum > limit) return false;
      int[] places = {laid(0, w), laid(1, w), laid(2, w)};
      for (int t = 0; t < 3; t++) if ((mask >> t & 1) == 1) at[t][places[t]] = w;
      boolean found = wayFrom(w + 1, limit);
      for (int t = 0; t < 3; t++) if ((mask >> t & 1) == 1) at[t][places[t]] = 99;
      return found;
    }
  }

  /** Up to 8 SCENES on up to 6 DAYS; answered SCENE by SCENE, giving up what costs no less than the best so far. */
  private static final class PlanCase {
    final long seed;
    final Random random;
    final ToBeContinued x = new ToBeContinued();
    final int n, days, most, sets;
    final int[] people = new int[8], minutes = new int[8], set = new int[8], offOn = new int[6];
    final int[][] look = new int[9][12];
    final int[] day = new int[8];
    int[] best = null;
    int least = 1000;

    PlanCase(long seed) {
      this.seed = seed;
      random = new Random(seed);
      n = random.nextInt(6) == 0 ? 1 + random.nextInt(8) : 8;
      days = 3 + random.nextInt(4);
      most = 15 + random.nextInt(30);
      sets = 1 + random.nextInt(4);
    }

    void play() {
      x.begin(12, 8, 1);
      int kinds = 2 + random.nextInt(7);
      for (int i = 0; i < n; i++) {
        people[i] = random.nextInt(4096) & random.nextInt(4096);
        minutes[i] = 1 + random.nextInt(15);
        set[i] = random.nextInt(kinds);
        x.scene(7, set[i], minutes[i], people[i], 0);
        look[i + 1] = look[i].clone();
        for (int p = 0; p < 12; p++) {
          if ((people[i] >> p & 1) == 1 && random.nextInt(12) == 0 && x.told(i, 5) < 6) {
            x.act(i, 5, p, -1, -1);
            look[i + 1][p]++;
          }
        }
      }
      for (int i = random.nextInt(12); i > 0; i--) {
        int p = random.nextInt(12), d = random.nextInt(6);
        offOn[d] ^= 1 << p;
        x.off(p, d);
      }
      x.block(7, 7, days, most, sets);
      tape(0);
      int want = best == null ? -3 : least;
      noteAnswer(want);
      due("plan()", seed, x.plan(), want);
      for (int i = 0; i < 8; i++) due("taped(" + i + ", 1)", seed, x.taped(i, 1), best == null || i >= n ? -1 : best[i]);
      x.tape(0, 1, n);
      for (int i = 0; i < n && best != null; i++) x.put(0, i, best[i]);
      if (best != null) due("proof()", seed, x.proof(0), least);
    }

    void tape(int i) {
      if (cost(i) >= least) return;
      if (i == n) {
        least = cost(n);
        best = day.clone();
        return;
      }
      for (day[i] = 0; day[i] < days; day[i]++) if (well(i)) tape(i + 1);
    }

    int cost(int of) {
      int sum = 0;
      for (int d = 0; d < days; d++) {
        int there = 0;
        for (int i = 0; i < of; i++) if (day[i] == d) there |= people[i];
        sum += Integer.bitCount(there);
      }
      return sum;
    }

    boolean well(int i) {
      if ((people[i] & offOn[day[i]]) != 0) return false;
      int[] from = new int[8], to = new int[8], sum = new int[6];
      Arrays.fill(from, 9);
      Arrays.fill(to, -9);
      for (int j = 0; j <= i; j++) {
        from[set[j]] = Math.min(from[set[j]], day[j]);
        to[set[j]] = Math.max(to[set[j]], day[j]);
        sum[day[j]] += minutes[j];
        for (int p = 0; p < 12; p++) {
          if ((people[i] & people[j] & 1 << p) != 0 && look[j][p] < look[i][p] && day[j] > day[i]) return false;
        }
      }
      for (int s = 0; s < 8; s++) if (to[s] > from[s] + 1) return false;
      for (int d = 0; d < days; d++) {
        int standing = 0;
        for (int s = 0; s < 8; s++) if (from[s] <= d && d <= to[s]) standing++;
        if (standing > sets || sum[d] > most) return false;
      }
      return true;
    }
  }

  /** A CUT of up to 40 SCENES; every four ends are tried, the earliest first. */
  private static void cut(Random random, long seed) {
    ToBeContinued x = new ToBeContinued();
    int n = 3 + random.nextInt(38), hooks = 1 + random.nextInt(4);
    int[] upTo = new int[n + 1];
    boolean[] hook = new boolean[n];
    for (int i = 0; i < n; i++) {
      int minutes = 1 + random.nextInt(15);
      hook[i] = random.nextInt(hooks) == 0;
      upTo[i + 1] = upTo[i] + minutes;
      x.scene(26, 0, minutes, 0, hook[i] ? 1 : 0);
    }
    int[] best = {-3, -3, -3, -3, -3};
    int least = -3;
    for (int a = 0; a < n; a++) for (int b = a + 1; hook[a] && b < n; b++) for (int c = b + 1; hook[b] && c < n; c++) {
      for (int d = c + 1; hook[c] && d < n - 1; d++) {
        if (!hook[d]) continue;
        int greatest = Math.max(Math.max(upTo[a + 1], upTo[b + 1] - upTo[a + 1]), upTo[c + 1] - upTo[b + 1]);
        greatest = Math.max(greatest, Math.max(upTo[d + 1] - upTo[c + 1], upTo[n] - upTo[d + 1]));
        if (least < 0 || greatest < least) {
          least = greatest;
          best = new int[] {a, b, c, d, n - 1};
        }
      }
    }
    noteAnswer(least);
    due("cut()", seed, x.cut(26), least);
    for (int e = 0; e < 5; e++) due("part(" + e + ")", seed, x.part(26, e), best[e]);
  }
}
