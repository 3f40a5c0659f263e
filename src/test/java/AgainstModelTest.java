import java.lang.reflect.InvocationTargetException;
import java.lang.reflect.Method;
import java.util.ArrayList;
import java.util.HashMap;
import java.util.List;
import java.util.Map;
import java.util.Random;

/** Long runs of calls, drawn from fixed seeds, each answered by the class and by the Model. */
public final class AgainstModelTest {
  // What a call's numbers mean, a letter each; see draw().
  private static final Map<String, String> CALLS = new HashMap<>();
  static {
    String[] all = {"begin PSK", "bible ps", "scene wSmMh", "act cApsq", "bare c", "drop c", "move cw", "told c7",
        "aired c", "faults ", "fault f4", "since ps", "teller ps", "tellings ps", "shown s", "stands cp3", "rule pd",
        "unrule p", "letters twn", "heat tw", "turn tmMww", "unturn t", "gap tgg", "away pw", "weeks w", "lay ",
        "laid t5", "judge d", "off pD", "block wwDNS", "plan ", "taped 82", "proof d", "cut w", "part w5",
        "leave pw", "tape dre", "keep d", "back d", "toss d", "clear d", "put div", "at di", "copy didil", "count C"};
    for (String one : all) {
      int gap = one.indexOf(' ');
      CALLS.put(one.substring(0, gap), one.substring(gap + 1));
    }
  }
  private static final Map<String, Method> REAL = new HashMap<>();
  private static final Map<String, Method> MODEL = new HashMap<>();

  private static final String[] STORY = {"bible", "scene", "*crowd", "act", "*tell", "*tell", "*tell", "*tell", "*tell",
      "*tell", "*tell", "*tell", "*learn", "*learn", "*learn", "*asked", "bare", "drop", "move", "told", "aired", "faults", "fault", "fault", "since", "teller", "tellings", "shown",
      "stands", "stands", "leave", "letters", "heat", "unrule", "*rule", "*rule", "keep", "toss", "count", "*die"};
  private static final String[] LAY = {"turn", "turn", "turn", "turn", "gap", "away", "away", "weeks", "scene", "drop",
      "*lay", "*lay", "*judge", "*judge", "judge", "unturn", "laid", "move", "count", "leave", "back", "keep"};
  private static final String[] TAPING = {"scene", "scene", "scene", "*look", "*look", "off", "block", "block", "block",
      "*plan", "*plan", "*plan", "*proof", "*proof", "*proof", "proof", "drop", "move", "*die", "bare", "keep", "back",
      "drop"};
  private static final String[] CUT = {"scene", "scene", "scene", "*cut", "*cut", "drop", "move"};
  private static final String[] TAPES = {"tape", "tape", "put", "put", "put", "at", "at", "copy", "copy", "copy",
      "clear", "keep", "back", "toss", "scene", "act", "bible", "judge", "proof", "rule", "count", "*rule", "begin"};

  private final Random random;
  private final ToBeContinued real = new ToBeContinued();
  private final Model model = new Model();
  private final List<String> calls = new ArrayList<>();
  private final int weeks;
  private final boolean wild;
  private int wrong;

  private AgainstModelTest(long seed, int weeks, boolean wild) {
    random = new Random(seed);
    this.weeks = weeks;
    this.wild = wild;
  }

  public static void main(String[] args) {
    for (Method m : ToBeContinued.class.getDeclaredMethods()) REAL.put(m.getName() + "/" + m.getParameterCount(), m);
    for (Method m : Model.class.getDeclaredMethods()) {
      String key = m.getName() + "/" + m.getParameterCount();
      if (REAL.containsKey(key) && !java.lang.reflect.Modifier.isPrivate(m.getModifiers())) MODEL.put(key, m);
    }
    int wrong = 0;
    int scale = args.length > 0 ? Integer.parseInt(args[0]) : 1;
    for (long seed = 1; seed <= 120L * scale && wrong < 5; seed++) {
      wrong += new AgainstModelTest(seed, 4, false).run(STORY, 250, 2 + (int) (seed % 4), 2, 1 + (int) (seed % 5));
      wrong += new AgainstModelTest(seed, 7, false).run(LAY, 120, 4, 2, 2);
      wrong += new AgainstModelTest(seed, 26, false).run(LAY, 120, 12, 2, 2);
      wrong += new AgainstModelTest(seed, 2, false).run(TAPING, 150, 4, 4, 2);
      wrong += new AgainstModelTest(seed, 3, false).run(TAPING, 150, 7, 8, 2);
      wrong += new AgainstModelTest(seed, 2, false).run(CUT, 80, 3, 2, 2);
      wrong += new AgainstModelTest(seed, 3, true).run(TAPES, 400, 4, 2, 4);
      wrong += new AgainstModelTest(seed, 5, true).run(everything(), 400, 12, 8, 24);
    }
    System.out.println(wrong == 0 ? "the model agrees" : "the model disagrees");
    if (wrong != 0) System.exit(1);
  }

  private static String[] everything() {
    List<String> all = new ArrayList<>(CALLS.keySet());
    java.util.Collections.sort(all);
    all.remove("lay");
    all.remove("plan");
    all.remove("begin");
    for (String[] more : new String[][] {STORY, LAY, TAPING, CUT}) all.addAll(List.of(more));
    return all.toArray(new String[0]);
  }

  private int run(String[] from, int n, int people, int sets, int secrets) {
    call("begin", people, sets, secrets);
    if (from == LAY) call("weeks", weeks);
    for (int i = 0; i < n && wrong == 0; i++) {
      String name = from[random.nextInt(from.length)];
      if (name.charAt(0) == '*') several(name);
      else one(name);
    }
    for (int what = -1; what < 14; what++) call("count", what);
    return wrong;
  }

  private void several(String name) {
    switch (name) {
      case "*rule": rule(); break;
      case "*die": call("act", draw('c'), 3 + random.nextInt(2), draw('p'), -1, -1); break;
      case "*look": call("act", draw('c'), 5, draw('p'), -1, -1); break;
      case "*crowd": call("scene", draw('w'), draw('S'), draw('m'), (1 << model.h.P) - 1, draw('h')); break;
      case "*learn": inScene(0); break;
      case "*tell": inScene(1 + random.nextInt(2)); break;
      case "*asked": asked(); break;
      case "*lay": lay(); break;
      case "*judge": judge(); break;
      case "*plan": plan(); break;
      case "*proof": proof(); break;
      default:
        int w = draw('w');
        call("cut", w);
        for (int e = 0; e < 5; e++) call("part", w, e);
    }
  }

  /** An ACT by PEOPLE who are in the SCENE, as far as there are some. */
  private void inScene(int kind) {
    int c = draw('c');
    int cast = c >= 0 && c < model.h.scenes.size() ? model.h.scenes.get(c).people : 0;
    int p = draw('p'), q = draw('p');
    for (int i = 0; i < 20 && (cast >> p & 1) == 0; i++) p = random.nextInt(model.h.P);
    for (int i = 0; i < 20 && ((cast >> q & 1) == 0 || q == p); i++) q = random.nextInt(model.h.P);
    call("act", c, kind, p, draw('s'), kind == 1 ? q : -1);
  }

  private void asked() {
    for (int p = 0; p < model.h.P; p++) {
      for (int s = 0; s < model.h.K; s++) {
        call("since", p, s);
        call("teller", p, s);
        call("tellings", p, s);
      }
      for (int w = 1; w <= weeks; w++) call("leave", p, w);
    }
    int n = model.faults();
    for (int i = 0; i <= n; i++) for (int what = 0; what < 4; what++) call("fault", i, what);
  }

  private void rule() {
    int d = random.nextInt(6), n = 0, depth = 0;
    int orders = random.nextInt(random.nextInt(8) == 0 ? 60 : 9);
    List<Integer> bytes = new ArrayList<>();
    while (n++ < orders || depth > 1 && random.nextInt(30) != 0) {
      int code = depth > 1 && (n >= orders || random.nextInt(3) == 0) ? 5 + random.nextInt(2)
          : depth > 0 && random.nextInt(4) == 0 ? 7 : 1 + random.nextInt(4);
      if (random.nextInt(60) == 0) code = random.nextInt(12) - 2;
      bytes.add(code);
      if (code == 1) { bytes.add(draw('p')); bytes.add(draw('s')); }
      if (code == 2) bytes.add(draw('p'));
      if (code == 3) { bytes.add(draw('t')); bytes.add(random.nextInt(40) - 5); }
      if (code == 4) bytes.add(random.nextInt(weeks + 2));
      if (code >= 1 && code <= 4) depth++;
      if (code == 5 || code == 6) depth--;
    }
    if (random.nextInt(20) != 0) bytes.add(0);
    if (bytes.size() > 64) return;
    write(d, 1, bytes);
    call("rule", draw('p'), d);
    call("faults");
  }

  private void write(int d, int sort, List<Integer> row) {
    call("tape", d, sort, row.size());
    for (int i = 0; i < row.size(); i++) call("put", d, i, row.get(i));
  }

  private void lay() {
    if (model.layings() > 20000) {
      call("unturn", random.nextInt(3));
      if (model.layings() > 20000) return;
    }
    call("lay");
    for (int t = 0; t < 3; t++) for (int k = 0; k < 6; k++) call("laid", t, k);
  }

  private void judge() {
    int d = random.nextInt(6);
    List<Integer> row = new ArrayList<>();
    for (int t = 0; t < 3; t++)
      for (int k = 0; k < model.turns.get(t).size(); k++) {
        int w = random.nextInt(weeks + 2);
        if (model.laying != null && k < model.laying[t].length && random.nextInt(8) != 0) w = model.laying[t][k];
        row.add(w);
      }
    if (!row.isEmpty() && random.nextInt(6) == 0) row.remove(row.size() - 1);
    if (random.nextInt(6) == 0) row.add(random.nextInt(9));
    write(d, 2, row);
    call("judge", d);
  }

  private void plan() {
    if (model.told != null) {
      int n = 0;
      for (Model.Scene s : model.h.scenes) if (!s.dropped && s.week >= model.told[0] && s.week <= model.told[1]) n++;
      if (n <= 8 && Math.pow(model.told[2], n) > (random.nextInt(12) == 0 ? 300000 : 8000)) return;
    }
    call("plan");
    for (int i = 0; i < 9; i++) for (int what = 0; what < 2; what++) call("taped", i, what);
  }

  private void proof() {
    int d = random.nextInt(6);
    List<Integer> row = new ArrayList<>();
    for (int i = 0; i < 8; i++)
      row.add(model.plan != null && i < model.plan.length && random.nextInt(6) != 0 ? model.plan[i][1]
          : random.nextInt(10) == 0 ? random.nextInt(9) - 2 : random.nextInt(3));
    while (row.size() > 0 && random.nextInt(4) == 0) row.remove(row.size() - 1);
    write(d, 1, row);
    call("proof", d);
  }

  private void one(String name) {
    String kinds = CALLS.get(name);
    Object[] drawn = new Object[kinds.length()];
    for (int i = 0; i < drawn.length; i++) drawn[i] = kinds.charAt(i) == 'v' ? (Object) random.nextLong() : (Object) draw(kinds.charAt(i));
    if (name.equals("act") && random.nextInt(10) != 0) {
      int kind = (Integer) drawn[1];
      if (kind > 2) drawn[3] = -1;
      if (kind != 1) drawn[4] = -1;
    }
    if (name.equals("turn") && random.nextInt(10) != 0) {
      int a = (Integer) drawn[3], b = (Integer) drawn[4];
      drawn[3] = Math.min(a, b);
      drawn[4] = Math.max(a, b);
    }
    call(name, drawn);
  }

  private int draw(char kind) {
    if (wild ? random.nextInt(25) == 0 : random.nextInt(200) == 0) {
      int[] odd = {-1, -2, Integer.MIN_VALUE, Integer.MAX_VALUE, 3, 5, 6, 8, 12, 24, 26, 27, 64, 65, 100, 4095, 4096};
      return odd[random.nextInt(odd.length)];
    }
    int P = model.h.P, S = model.h.S, K = model.h.K, told = model.h.scenes.size();
    switch (kind) {
      case 'P': return 1 + random.nextInt(12);
      case 'S': return random.nextInt(S);
      case 'K': return 1 + random.nextInt(24);
      case 'p': case 'q': return random.nextInt(P);
      case 's': return random.nextInt(K);
      case 'w': return 1 + random.nextInt(weeks);
      case 'm': return 1 + random.nextInt(15);
      case 'M': return random.nextInt(1 << P) & (random.nextBoolean() ? -1 : random.nextInt(1 << P));
      case 'h': return random.nextInt(5) == 0 ? 0 : 1;
      case 'c': return told == 0 ? 0 : random.nextInt(4) == 0 ? told - 1 : random.nextInt(told);
      case 'A': return random.nextInt(6);
      case 'f': return random.nextInt(8);
      case 't': return random.nextInt(3);
      case 'n': return random.nextInt(30);
      case 'g': return 1 + random.nextInt(6);
      case 'd': return random.nextInt(6);
      case 'D': return random.nextInt(6);
      case 'N': return 1 + random.nextInt(random.nextBoolean() ? 30 : 90);
      case 'r': return 1 + random.nextInt(4);
      case 'e': return random.nextInt(8);
      case 'i': case 'l': return random.nextInt(6);
      case 'C': return random.nextInt(14) - 1;
      default: return random.nextInt(kind - '0' + 1);
    }
  }

  private void call(String name, Object... numbers) {
    String key = name + "/" + numbers.length;
    Method m = REAL.get(key);
    if (m.getParameterCount() > 2 && m.getParameterTypes()[2] == long.class) numbers[2] = ((Number) numbers[2]).longValue();
    String due = answer(MODEL.get(key), model, numbers);
    String got = answer(m, real, numbers);
    calls.add(name + java.util.Arrays.toString(numbers) + " = " + got);
    if (!got.equals(due)) {
      wrong++;
      for (String line : calls) System.out.println("  " + line);
      System.out.println("due is " + due);
    }
  }

  private static String answer(Method m, Object on, Object[] numbers) {
    try {
      return m.invoke(on, numbers).toString();
    } catch (InvocationTargetException thrown) {
      return "throws." + thrown.getCause().getClass().getSimpleName();
    } catch (IllegalAccessException never) {
      return never.toString();
    }
  }
}
