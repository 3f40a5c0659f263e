import java.util.ArrayList;
import java.util.Arrays;
import java.util.List;

/**
 * The document again, written as plainly as can be and without a thought for speed: every choice is tried.
 * AgainstModelTest holds the class against it.
 */
final class Model {
  static final class Act {
    final int kind, p, s, q;
    Act(int kind, int p, int s, int q) { this.kind = kind; this.p = p; this.s = s; this.q = q; }
    boolean names(int person) { return p == person || q == person; }
  }

  static final class Scene {
    int week, set, minutes, people, hook;
    boolean dropped;
    List<Act> acts = new ArrayList<>();
    Scene twin() {
      Scene t = new Scene();
      t.week = week; t.set = set; t.minutes = minutes; t.people = people; t.hook = hook; t.dropped = dropped;
      t.acts = new ArrayList<>(acts);
      return t;
    }
    boolean has(int person) { return (people >> person & 1) == 1; }
  }

  static final class House {
    int P, S, K;
    List<Scene> scenes = new ArrayList<>();
    boolean[][] bible = new boolean[12][24];
    byte[][] rules = new byte[12][];
    House twin() {
      House t = new House();
      t.P = P; t.S = S; t.K = K;
      for (Scene s : scenes) t.scenes.add(s.twin());
      for (int p = 0; p < 12; p++) {
        t.bible[p] = bible[p].clone();
        t.rules[p] = rules[p];
      }
      return t;
    }
    List<Integer> airOrder() {
      List<Integer> order = new ArrayList<>();
      for (int w = 1; w <= 26; w++)
        for (int i = 0; i < scenes.size(); i++)
          if (!scenes.get(i).dropped && scenes.get(i).week == w) order.add(i);
      return order;
    }
  }

  static final class Turn {
    final int minutes, people, first, last;
    Turn(int minutes, int people, int first, int last) {
      this.minutes = minutes; this.people = people; this.first = first; this.last = last;
    }
  }

  /** What stands at some moment of THE STORY, and all that was found on the way to it. */
  final class Run {
    final House h;
    final boolean[] dead = new boolean[12];
    final int[] look = new int[12];
    final int[][] since = new int[12][24], teller = new int[12][24], tellings = new int[12][24];
    final int[] shown = new int[24];
    final List<int[]> faults = new ArrayList<>();
    final List<String> done = new ArrayList<>();
    final List<int[]> looksAt = new ArrayList<>();

    /** Goes through THE STORY up to a SCENE (-1: all of it), without a leaver (-1: nobody) from a WEEK on. */
    Run(House h, int stopAt, int leaver, int from) {
      this.h = h;
      Arrays.fill(shown, -3);
      for (int p = 0; p < 12; p++)
        for (int s = 0; s < 24; s++) {
          since[p][s] = teller[p][s] = h.bible[p][s] ? -2 : -3;
          tellings[p][s] = h.bible[p][s] ? 0 : -3;
        }
      for (int i : h.airOrder()) {
        if (i == stopAt) return;
        looksAt.add(look.clone());
        Scene scene = h.scenes.get(i).twin();
        List<Integer> numbers = new ArrayList<>();
        for (int a = 0; a < scene.acts.size(); a++) numbers.add(a);
        if (leaver >= 0 && scene.week >= from) {
          scene.people &= ~(1 << leaver);
          for (int a = scene.acts.size() - 1; a >= 0; a--)
            if (scene.acts.get(a).names(leaver)) { scene.acts.remove(a); numbers.remove(a); }
        }
        play(i, scene, numbers);
      }
    }

    boolean knows(int p, int s) { return since[p][s] != -3; }

    int secretsOf(int p) {
      int n = 0;
      for (int s = 0; s < h.K; s++) if (knows(p, s)) n++;
      return n;
    }

    private void play(int i, Scene scene, List<Integer> numbers) {
      for (int p = 0; p < h.P; p++) {
        boolean returns = false;
        for (Act a : scene.acts) if (a.kind == 4 && a.p == p) returns = true;
        if (scene.has(p) && dead[p] && !returns) faults.add(new int[] {i, -1, 1, p});
      }
      for (int n = 0; n < scene.acts.size(); n++) {
        Act a = scene.acts.get(n);
        int which = which(scene, a);
        if (which != 0) { faults.add(new int[] {i, numbers.get(n), which, a.p}); continue; }
        done.add(i + "/" + numbers.get(n));
        if (a.kind == 0) { since[a.p][a.s] = i; teller[a.p][a.s] = -2; tellings[a.p][a.s] = 0; }
        if (a.kind == 1) { since[a.q][a.s] = i; teller[a.q][a.s] = a.p; tellings[a.q][a.s] = tellings[a.p][a.s] + 1; }
        if (a.kind <= 2 && shown[a.s] == -3) shown[a.s] = i;
        if (a.kind == 3) dead[a.p] = true;
        if (a.kind == 4) dead[a.p] = false;
        if (a.kind == 5) look[a.p]++;
      }
    }

    private int which(Scene scene, Act a) {
      if (!scene.has(a.p) || a.kind == 1 && !scene.has(a.q)) return 2;
      if (a.kind != 4 && (dead[a.p] || a.kind == 1 && dead[a.q])) return 1;
      if (a.kind == 4 && !dead[a.p]) return 6;
      if (a.kind == 4 && !lets(h.rules[a.p], scene.week)) return 5;
      if ((a.kind == 1 || a.kind == 2) && !knows(a.p, a.s)) return 3;
      if (a.kind == 0 && knows(a.p, a.s)) return 4;
      if (a.kind == 1 && (knows(a.q, a.s) || a.q == a.p)) return 4;
      return 0;
    }

    private boolean lets(byte[] rule, int week) {
      if (rule == null) return false;
      ArrayList<Boolean> stack = new ArrayList<>();
      int i = 0;
      while (rule[i] != 0) {
        switch (rule[i]) {
          case 1: stack.add(knows(rule[i + 1], rule[i + 2])); i += 3; break;
          case 2: stack.add(dead[rule[i + 1]]); i += 2; break;
          case 3: stack.add(heat(rule[i + 1], week) >= rule[i + 2]); i += 3; break;
          case 4: stack.add(week >= rule[i + 1]); i += 2; break;
          case 5: { boolean x = pop(stack), y = pop(stack); stack.add(x && y); i++; break; }
          case 6: { boolean x = pop(stack), y = pop(stack); stack.add(x || y); i++; break; }
          default: stack.add(!pop(stack)); i++;
        }
      }
      return stack.get(0);
    }

    private boolean pop(ArrayList<Boolean> stack) { return stack.remove(stack.size() - 1); }
  }

  House h;
  int[][] letters, away, off;
  List<List<Turn>> turns;
  int[][] gaps;
  int W, refusals;
  int[][] laying;
  int[] told;
  int[][] plan;
  final Object[] tapes = new Object[6];

  Model() { begin(4, 2, 4); }

  int begin(int p, int s, int k) {
    if (p < 1 || p > 12 || s < 1 || s > 8 || k < 1 || k > 24) return -1;
    h = new House();
    h.P = p; h.S = s; h.K = k;
    letters = new int[3][27];
    gaps = new int[][] {{1, 6}, {1, 6}, {1, 6}};
    W = 12;
    refusals = 0;
    forget();
    return 0;
  }

  private void forget() {
    turns = List.of(new ArrayList<>(), new ArrayList<>(), new ArrayList<>());
    away = new int[12][27];
    off = new int[12][6];
    laying = null;
    told = null;
    plan = null;
  }

  private boolean person(int p) { return p >= 0 && p < h.P; }
  private boolean secret(int s) { return s >= 0 && s < h.K; }
  private boolean week(int w) { return w >= 1 && w <= 26; }
  private boolean thread(int t) { return t >= 0 && t <= 2; }
  private boolean people(int m) { return m >= 0 && m < 1 << h.P; }
  private boolean isTold(int i) { return i >= 0 && i < h.scenes.size(); }
  private boolean scene(int i) { return isTold(i) && !h.scenes.get(i).dropped; }
  private boolean tape(int d) { return d >= 0 && d <= 5; }
  private int refuse(int code) { refusals++; return code; }
  private Run all() { return new Run(h, -1, -1, 0); }

  int bible(int p, int s) {
    if (!person(p) || !secret(s)) return -1;
    h.bible[p][s] = !h.bible[p][s];
    return h.bible[p][s] ? 1 : 0;
  }

  int scene(int week, int set, int minutes, int people, int hook) {
    if (!week(week) || set < 0 || set >= h.S || minutes < 1 || minutes > 15 || !people(people) || hook < 0 || hook > 1)
      return -1;
    if (h.scenes.size() == 100) return -2;
    Scene s = new Scene();
    s.week = week; s.set = set; s.minutes = minutes; s.people = people; s.hook = hook;
    h.scenes.add(s);
    return h.scenes.size() - 1;
  }

  int act(int scene, int kind, int p, int s, int q) {
    if (!scene(scene) || kind < 0 || kind > 5 || !person(p)) return -1;
    if (kind <= 2 ? !secret(s) : s != -1) return -1;
    if (kind == 1 ? !person(q) : q != -1) return -1;
    List<Act> acts = h.scenes.get(scene).acts;
    if (acts.size() == 6) return -2;
    acts.add(new Act(kind, p, s, q));
    return acts.size();
  }

  int bare(int scene) {
    if (!scene(scene)) return -1;
    int n = h.scenes.get(scene).acts.size();
    h.scenes.get(scene).acts.clear();
    return n;
  }

  int drop(int scene) {
    if (!isTold(scene)) return -1;
    Scene s = h.scenes.get(scene);
    s.dropped = !s.dropped;
    return s.dropped ? 1 : 0;
  }

  int move(int scene, int week) {
    if (!scene(scene) || !week(week)) return -1;
    int w = h.scenes.get(scene).week;
    h.scenes.get(scene).week = week;
    return w;
  }

  int told(int scene, int what) {
    if (!isTold(scene) || what < 0 || what > 6) return -1;
    Scene s = h.scenes.get(scene);
    return new int[] {s.week, s.set, s.minutes, s.people, s.hook, s.acts.size(), s.dropped ? 1 : 0}[what];
  }

  int aired(int i) {
    List<Integer> order = h.airOrder();
    return i < 0 || i >= order.size() ? -1 : order.get(i);
  }

  int faults() { return all().faults.size(); }

  int fault(int i, int what) {
    List<int[]> faults = all().faults;
    return i < 0 || i >= faults.size() || what < 0 || what > 3 ? -1 : faults.get(i)[what];
  }

  int since(int p, int s) { return !person(p) || !secret(s) ? -1 : all().since[p][s]; }
  int teller(int p, int s) { return !person(p) || !secret(s) ? -1 : all().teller[p][s]; }
  int tellings(int p, int s) { return !person(p) || !secret(s) ? -1 : all().tellings[p][s]; }
  int shown(int s) { return !secret(s) ? -1 : all().shown[s]; }

  int stands(int scene, int p, int what) {
    if (!scene(scene) || !person(p) || what < 0 || what > 2) return -1;
    Run run = new Run(h, scene, -1, 0);
    return what == 0 ? run.dead[p] ? 1 : 0 : what == 1 ? run.look[p] : run.secretsOf(p);
  }

  int rule(int p, int d) {
    if (!person(p) || !tape(d)) return -1;
    if (tapes[d] == null) return refuse(-11);
    if (!(tapes[d] instanceof byte[])) return refuse(-12);
    byte[] row = (byte[]) tapes[d];
    int depth = 0, orders = 0, i = 0;
    while (true) {
      if (i == row.length) return -100 - i;
      int left = row.length - i - 1;
      int size;
      switch (row[i]) {
        case 0:
          if (depth != 1) return -100 - i;
          if (orders > 40) return -2;
          h.rules[p] = row.clone();
          return orders;
        case 1: if (left < 2 || !person(row[i + 1]) || !secret(row[i + 2])) return -100 - i; size = 3; depth++; break;
        case 2: if (left < 1 || !person(row[i + 1])) return -100 - i; size = 2; depth++; break;
        case 3: if (left < 2 || !thread(row[i + 1])) return -100 - i; size = 3; depth++; break;
        case 4: if (left < 1) return -100 - i; size = 2; depth++; break;
        case 5: case 6: if (depth < 2) return -100 - i; size = 1; depth--; break;
        case 7: if (depth < 1) return -100 - i; size = 1; break;
        default: return -100 - i;
      }
      if (depth == 9) return -100 - i;
      i += size;
      orders++;
    }
  }

  private int orders(byte[] row) {
    if (row == null) return 0;
    int n = 0;
    for (int i = 0; row[i] != 0; n++) i += row[i] == 1 || row[i] == 3 ? 3 : row[i] == 2 || row[i] == 4 ? 2 : 1;
    return n;
  }

  int unrule(int p) {
    if (!person(p)) return -1;
    int n = orders(h.rules[p]);
    h.rules[p] = null;
    return n;
  }

  int letters(int t, int w, int n) {
    if (!thread(t) || !week(w) || n < 0 || n > 9999) return -1;
    int had = letters[t][w];
    letters[t][w] = n;
    return had;
  }

  int heat(int t, int w) {
    if (!thread(t) || !week(w)) return -1;
    return w == 1 ? 0 : heat(t, w - 1) * 3 / 4 + letters[t][w - 1];
  }

  int turn(int t, int minutes, int people, int first, int last) {
    if (!thread(t) || minutes < 1 || minutes > 15 || !people(people)) return -1;
    if (!week(first) || !week(last) || first > last) return -1;
    if (turns.get(t).size() == 5) return -2;
    turns.get(t).add(new Turn(minutes, people, first, last));
    return turns.get(t).size();
  }

  int unturn(int t) {
    if (!thread(t)) return -1;
    int n = turns.get(t).size();
    turns.get(t).clear();
    return n;
  }

  int gap(int t, int least, int most) {
    if (!thread(t) || least < 1 || least > 6 || most < 1 || most > 6 || least > most) return -1;
    gaps[t] = new int[] {least, most};
    return 0;
  }

  int away(int p, int w) { return !person(p) || !week(w) ? -1 : (away[p][w] ^= 1); }

  int weeks(int w) {
    if (!week(w)) return -1;
    int had = W;
    W = w;
    return had;
  }

  private boolean mayCome(int t, int k, int w, int ahead) {
    Turn turn = turns.get(t).get(k);
    if (w < 1 || w > W || w < turn.first || w > turn.last) return false;
    for (int p = 0; p < h.P; p++) if ((turn.people >> p & 1) == 1 && away[p][w] == 1) return false;
    return k == 0 || w - ahead >= gaps[t][0] && w - ahead <= gaps[t][1];
  }

  private void layings(int t, int[] weeks, int k, List<int[]> found) {
    if (k == weeks.length) { found.add(weeks.clone()); return; }
    for (int w = 1; w <= W; w++)
      if (mayCome(t, k, w, k == 0 ? 0 : weeks[k - 1])) {
        weeks[k] = w;
        layings(t, weeks, k + 1, found);
      }
  }

  private int greatest(int[][] l) {
    int[] load = new int[27];
    for (Scene s : h.scenes) if (!s.dropped) load[s.week] += s.minutes;
    for (int t = 0; t < 3; t++) for (int k = 0; k < l[t].length; k++) load[l[t][k]] += turns.get(t).get(k).minutes;
    int greatest = 0;
    for (int w = 1; w <= W; w++) greatest = Math.max(greatest, load[w]);
    return greatest;
  }

  private boolean firstByMasks(int[][] l, int[][] than) {
    for (int w = 1; w <= W; w++) {
      int a = 0, b = 0;
      for (int t = 0; t < 3; t++) {
        for (int x : l[t]) if (x == w) a |= 1 << t;
        for (int x : than[t]) if (x == w) b |= 1 << t;
      }
      if (a != b) return a < b;
    }
    return false;
  }

  /** How many LAYINGS there would be to look at. */
  long layings() {
    long n = 1;
    for (int t = 0; t < 3; t++) {
      List<int[]> found = new ArrayList<>();
      layings(t, new int[turns.get(t).size()], 0, found);
      n *= found.size();
    }
    return n;
  }

  int lay() {
    laying = null;
    List<List<int[]>> each = new ArrayList<>();
    for (int t = 0; t < 3; t++) {
      each.add(new ArrayList<>());
      layings(t, new int[turns.get(t).size()], 0, each.get(t));
    }
    int least = -3;
    for (int[] a : each.get(0)) for (int[] b : each.get(1)) for (int[] c : each.get(2)) {
      int[][] l = {a, b, c};
      int load = greatest(l);
      if (laying == null || load < least || load == least && firstByMasks(l, laying)) { laying = l; least = load; }
    }
    return least;
  }

  int laid(int t, int k) {
    return laying == null || !thread(t) || k < 0 || k >= laying[t].length ? -1 : laying[t][k];
  }

  int judge(int d) {
    if (!tape(d)) return -1;
    if (tapes[d] == null) return refuse(-11);
    if (!(tapes[d] instanceof short[])) return refuse(-12);
    short[] row = (short[]) tapes[d];
    int[][] l = new int[3][];
    int place = 0;
    for (int t = 0; t < 3; t++) {
      l[t] = new int[turns.get(t).size()];
      for (int k = 0; k < l[t].length; k++) {
        if (place == row.length) return refuse(-13);
        if (!mayCome(t, k, row[place], k == 0 ? 0 : row[place - 1])) return -100 - place;
        l[t][k] = row[place++];
      }
    }
    return greatest(l);
  }

  int off(int p, int day) { return !person(p) || day < 0 || day > 5 ? -1 : (off[p][day] ^= 1); }

  private List<Integer> blockScenes(int[] b) {
    List<Integer> list = new ArrayList<>();
    for (int i : h.airOrder()) if (h.scenes.get(i).week >= b[0] && h.scenes.get(i).week <= b[1]) list.add(i);
    return list;
  }

  int block(int a, int b, int days, int minutes, int sets) {
    if (!week(a) || !week(b) || a > b || days < 1 || days > 6 || minutes < 1 || minutes > 200 || sets < 1 || sets > 8)
      return -1;
    int[] block = {a, b, days, minutes, sets};
    int n = blockScenes(block).size();
    if (n > 8) return -4;
    told = block;
    return n;
  }

  /** Whether the DAYS of the SCENES 0 .. i (alone) are as (1) to (5) say. */
  private boolean well(List<Integer> scenes, int[] days, int i, List<int[]> looks) {
    List<Integer> order = h.airOrder();
    for (int a = 0; a <= i; a++) {
      if (days[a] < 0 || days[a] >= told[2]) return false;
      for (int p = 0; p < h.P; p++)
        if (h.scenes.get(scenes.get(a)).has(p) && off[p][days[a]] == 1) return false;
    }
    int[] standing = new int[6];
    for (int set = 0; set < h.S; set++) {
      int first = 99, last = -1;
      for (int a = 0; a <= i; a++)
        if (h.scenes.get(scenes.get(a)).set == set) { first = Math.min(first, days[a]); last = Math.max(last, days[a]); }
      if (last > first + 1) return false;
      for (int day = first; day <= last; day++) standing[day]++;
    }
    for (int day = 0; day < told[2]; day++) {
      int minutes = 0;
      for (int a = 0; a <= i; a++) if (days[a] == day) minutes += h.scenes.get(scenes.get(a)).minutes;
      if (minutes > told[3] || standing[day] > told[4]) return false;
    }
    for (int a = 0; a <= i; a++)
      for (int b = a + 1; b <= i; b++)
        for (int p = 0; p < h.P; p++) {
          boolean both = h.scenes.get(scenes.get(a)).has(p) && h.scenes.get(scenes.get(b)).has(p);
          int lookA = looks.get(order.indexOf(scenes.get(a)))[p], lookB = looks.get(order.indexOf(scenes.get(b)))[p];
          if (both && lookA < lookB && days[a] > days[b]) return false;
        }
    return true;
  }

  private int cost(List<Integer> scenes, int[] days) {
    int cost = 0;
    for (int day = 0; day < 6; day++)
      for (int p = 0; p < h.P; p++) {
        boolean there = false;
        for (int a = 0; a < scenes.size(); a++) there |= days[a] == day && h.scenes.get(scenes.get(a)).has(p);
        if (there) cost++;
      }
    return cost;
  }

  private int bestCost;
  private int[] bestDays;

  private void plans(List<Integer> scenes, int[] days, int i, List<int[]> looks) {
    if (i == scenes.size()) {
      int cost = cost(scenes, days);
      if (bestDays == null || cost < bestCost) { bestCost = cost; bestDays = days.clone(); }
      return;
    }
    for (int day = 0; day < told[2]; day++) {
      days[i] = day;
      if (well(scenes, days, i, looks)) plans(scenes, days, i + 1, looks);
    }
  }

  int plan() {
    if (told == null) return -1;
    List<Integer> scenes = blockScenes(told);
    if (scenes.size() > 8) return -4;
    plan = null;
    bestDays = null;
    plans(scenes, new int[scenes.size()], 0, all().looksAt);
    if (bestDays == null) return -3;
    plan = new int[scenes.size()][];
    for (int i = 0; i < plan.length; i++) plan[i] = new int[] {scenes.get(i), bestDays[i]};
    return bestCost;
  }

  int taped(int i, int what) {
    return plan == null || i < 0 || i >= plan.length || what < 0 || what > 1 ? -1 : plan[i][what];
  }

  int proof(int d) {
    if (!tape(d) || told == null) return -1;
    List<Integer> scenes = blockScenes(told);
    if (scenes.size() > 8) return -4;
    if (tapes[d] == null) return refuse(-11);
    if (!(tapes[d] instanceof byte[])) return refuse(-12);
    byte[] row = (byte[]) tapes[d];
    int[] days = new int[scenes.size()];
    List<int[]> looks = all().looksAt;
    for (int i = 0; i < days.length; i++) {
      if (i == row.length) return refuse(-13);
      days[i] = row[i];
      if (!well(scenes, days, i, looks)) return -100 - i;
    }
    return cost(scenes, days);
  }

  /** The ends of the CUT's PARTS (as places) and, last, its greatest MINUTES; null: there is none. */
  private int[] cutOf(List<Scene> s) {
    int[] best = null;
    int n = s.size();
    for (int a = 0; a < n; a++) for (int b = a + 1; b < n; b++) for (int c = b + 1; c < n; c++)
      for (int d = c + 1; d < n - 1; d++) {
        if (s.get(a).hook + s.get(b).hook + s.get(c).hook + s.get(d).hook < 4) continue;
        int[] cut = {a, b, c, d, n - 1, 0};
        int begin = 0;
        for (int e = 0; e < 5; e++) {
          int minutes = 0;
          for (int i = begin; i <= cut[e]; i++) minutes += s.get(i).minutes;
          cut[5] = Math.max(cut[5], minutes);
          begin = cut[e] + 1;
        }
        if (best == null || cut[5] < best[5]) best = cut;
      }
    return best;
  }

  private List<Scene> scenesIn(int week) {
    List<Scene> list = new ArrayList<>();
    for (int i : h.airOrder()) if (h.scenes.get(i).week == week) list.add(h.scenes.get(i));
    return list;
  }

  int cut(int week) {
    if (!week(week)) return -1;
    int[] cut = cutOf(scenesIn(week));
    return cut == null ? -3 : cut[5];
  }

  int part(int week, int e) {
    if (!week(week) || e < 0 || e > 4) return -1;
    int[] cut = cutOf(scenesIn(week));
    return cut == null ? -3 : h.scenes.indexOf(scenesIn(week).get(cut[e]));
  }

  int leave(int p, int week) {
    if (!person(p) || !week(week)) return -1;
    List<String> then = new Run(h, -1, p, week).done;
    int harm = 0;
    for (String act : all().done) if (!then.contains(act)) harm++;
    return harm;
  }

  int tape(int d, int sort, int n) {
    if (!tape(d) || sort < 1 || sort > 4 || n > 64) return -1;
    if (n < 0) return refuse(-14);
    tapes[d] = sort == 1 ? new byte[n] : sort == 2 ? new short[n] : sort == 3 ? new int[n] : new long[n];
    return n;
  }

  int keep(int d) {
    if (!tape(d)) return -1;
    tapes[d] = h.twin();
    return h.scenes.size();
  }

  int back(int d) {
    if (!tape(d)) return -1;
    if (tapes[d] == null) return refuse(-11);
    if (!(tapes[d] instanceof House)) return refuse(-12);
    h = ((House) tapes[d]).twin();
    forget();
    return h.scenes.size();
  }

  int toss(int d) {
    if (!tape(d)) return -1;
    if (tapes[d] == null) return refuse(-11);
    if (!(tapes[d] instanceof House)) return refuse(-12);
    int n = new Run((House) tapes[d], -1, -1, 0).faults.size();
    return n == 0 ? refuse(-15) : n;
  }

  private int sort(Object o) {
    return o == null ? 0 : o instanceof byte[] ? 1 : o instanceof short[] ? 2 : o instanceof int[] ? 3
        : o instanceof long[] ? 4 : 5;
  }

  int clear(int d) {
    if (!tape(d)) return -1;
    int held = sort(tapes[d]);
    tapes[d] = null;
    return held;
  }

  int put(int d, int i, long v) {
    if (!tape(d)) return -1;
    if (tapes[d] == null) return refuse(-11);
    if (sort(tapes[d]) == 5) return refuse(-12);
    if (i < 0 || i >= java.lang.reflect.Array.getLength(tapes[d])) return refuse(-13);
    switch (sort(tapes[d])) {
      case 1: ((byte[]) tapes[d])[i] = (byte) v; break;
      case 2: ((short[]) tapes[d])[i] = (short) v; break;
      case 3: ((int[]) tapes[d])[i] = (int) v; break;
      default: ((long[]) tapes[d])[i] = v;
    }
    return 1;
  }

  long at(int d, int i) {
    if (!tape(d)) throw new IllegalArgumentException();
    int sort = sort(tapes[d]);
    if (sort == 0 || sort == 5 || i < 0 || i >= java.lang.reflect.Array.getLength(tapes[d]))
      throw new IllegalStateException();
    return java.lang.reflect.Array.getLong(tapes[d], i);
  }

  int copy(int d, int i, int e, int j, int n) {
    if (!tape(d) || !tape(e)) return -1;
    if (tapes[d] == null || tapes[e] == null) return refuse(-11);
    if (sort(tapes[d]) == 5 || sort(tapes[d]) != sort(tapes[e])) return refuse(-12);
    try {
      System.arraycopy(tapes[d], i, tapes[e], j, n);
    } catch (IndexOutOfBoundsException wrong) {
      return refuse(-13);
    }
    return n;
  }

  int count(int what) {
    int rules = 0;
    for (byte[] rule : h.rules) if (rule != null) rules++;
    switch (what) {
      case 0: return h.P;
      case 1: return h.S;
      case 2: return h.K;
      case 3: return h.scenes.size();
      case 4: return h.airOrder().size();
      case 5: return rules;
      case 6: return W;
      case 7: return refusals;
      case 10: case 11: case 12: return turns.get(what - 10).size();
      default: return -1;
    }
  }
}
