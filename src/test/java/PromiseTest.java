/** For each promise: ordinary inputs, the edges that the document names, and wrong inputs. */
public final class PromiseTest {
  private static int wrong = 0;
  private static int asked = 0;
  private static ToBeContinued x = new ToBeContinued();

  private static void due(int promise, String what, long got, long want) {
    asked++;
    if (got != want) {
      wrong++;
      System.out.println("promise " + promise + ": " + what + " answered " + got + ", due is " + want);
    }
  }

  private static void fresh(int people, int sets, int secrets) {
    x = new ToBeContinued();
    x.begin(people, sets, secrets);
  }

  /** TAPE d gets a row of a sort with these elements. */
  private static void row(int d, int sort, long... elements) {
    x.tape(d, sort, elements.length);
    for (int i = 0; i < elements.length; i++) x.put(d, i, elements[i]);
  }

  private static String at(int d, int i) {
    try {
      return "" + x.at(d, i);
    } catch (IllegalArgumentException e) {
      return "argument";
    } catch (IllegalStateException e) {
      return "state";
    }
  }

  private static void dueAt(String what, String got, String want) {
    due(44, what + " (" + got + " for " + want + ")", got.equals(want) ? 1 : 0, 1);
  }

  public static void main(String[] args) {
    house();
    scenes();
    airOrder();
    faultsInOrder();
    knowledge();
    standing();
    rules();
    heat();
    turnsAndWeeks();
    layings();
    judging();
    blocks();
    plans();
    proofs();
    cuts();
    leaving();
    tapeRows();
    copies();
    refusals();
    System.out.println(asked + " answers asked for, " + wrong + " not as due");
    if (wrong != 0) System.exit(1);
  }

  private static void house() {
    x = new ToBeContinued();
    int[] atFirst = {4, 2, 4, 0, 0, 0, 12, 0, -1, -1, 0, 0, 0, -1};
    for (int i = 0; i < atFirst.length; i++) due(1, "count(" + i + ") of a new object", x.count(i), atFirst[i]);
    due(1, "plan() of a new object", x.plan(), -1);
    due(1, "laid(0, 0) of a new object", x.laid(0, 0), -1);
    due(2, "begin(12, 8, 24)", x.begin(12, 8, 24), 0);
    due(46, "count(0)", x.count(0), 12);
    due(46, "count(1)", x.count(1), 8);
    due(46, "count(2)", x.count(2), 24);
    int[][] none = {{0, 1, 1}, {13, 1, 1}, {1, 0, 1}, {1, 9, 1}, {1, 1, 0}, {1, 1, 25}, {-1, -1, -1}};
    for (int[] n : none) due(2, "begin not as said", x.begin(n[0], n[1], n[2]), -1);
    due(2, "a refused begin() changes nothing", x.count(0), 12);
    fill();
    due(2, "begin(3, 2, 2)", x.begin(3, 2, 2), 0);
    due(2, "no SCENES", x.count(3), 0);
    due(2, "no BIBLE", x.since(0, 0), -3);
    due(2, "no RULES", x.count(5), 0);
    due(2, "no LETTERS", x.heat(0, 2), 0);
    due(2, "no TURNS", x.count(10), 0);
    due(2, "W as at first", x.weeks(12), 12);
    due(2, "no LAYING", x.laid(0, 0), -1);
    due(2, "no PLAN", x.taped(0, 0), -1);
    due(2, "no BLOCK", x.plan(), -1);
    due(2, "nobody AWAY", x.away(0, 1), 1);
    due(2, "nobody OFF", x.off(0, 0), 1);
    due(2, "refusals begin anew", x.count(7), 0);
    due(2, "TAPES stay", x.clear(0), 1);
    x.turn(0, 1, 0, 1, 1);
    x.turn(0, 1, 0, 12, 12);
    due(2, "GAPS as at first", x.lay(), -3);
    due(3, "bible(2, 1)", x.bible(2, 1), 1);
    due(3, "known by the BIBLE", x.since(2, 1), -2);
    due(3, "bible(2, 1) again", x.bible(2, 1), 0);
    due(3, "not known any more", x.since(2, 1), -3);
    due(3, "bible(3, 0)", x.bible(3, 0), -1);
    due(3, "bible(-1, 0)", x.bible(-1, 0), -1);
    due(3, "bible(0, 2)", x.bible(0, 2), -1);
    due(3, "bible(0, -1)", x.bible(0, -1), -1);
  }

  /** Something of all that begin() and back() take away. */
  private static void fill() {
    x.begin(3, 2, 2);
    x.scene(1, 0, 3, 0, 0);
    x.bible(0, 0);
    row(0, 1, 4, 1, 0);
    x.rule(0, 0);
    x.letters(0, 1, 5);
    x.turn(0, 1, 1, 2, 9);
    x.gap(0, 1, 6);
    x.away(0, 1);
    x.off(0, 0);
    x.block(1, 1, 2, 15, 2);
    x.weeks(20);
    x.lay();
    x.plan();
    x.judge(5);
    due(28, "fill() lays", x.laid(0, 0), 9);
    due(33, "fill() plans", x.taped(0, 1), 0);
  }

  private static void scenes() {
    fresh(3, 2, 2);
    due(4, "the first SCENE", x.scene(26, 1, 15, 7, 1), 0);
    due(4, "the second SCENE", x.scene(1, 0, 1, 0, 0), 1);
    int[][] none = {{0, 0, 1, 0, 0}, {27, 0, 1, 0, 0}, {1, -1, 1, 0, 0}, {1, 2, 1, 0, 0}, {1, 0, 0, 0, 0},
        {1, 0, 16, 0, 0}, {1, 0, 1, -1, 0}, {1, 0, 1, 8, 0}, {1, 0, 1, Integer.MIN_VALUE, 0}, {1, 0, 1, 0, 2},
        {1, 0, 1, 0, -1}};
    for (int[] n : none) due(4, "scene not as said", x.scene(n[0], n[1], n[2], n[3], n[4]), -1);
    due(46, "SCENES told", x.count(3), 2);
    int[] told = {26, 1, 15, 7, 1, 0, 0};
    for (int i = 0; i < 7; i++) due(9, "told(0, " + i + ")", x.told(0, i), told[i]);
    due(9, "told(0, 7)", x.told(0, 7), -1);
    due(9, "told(0, -1)", x.told(0, -1), -1);
    due(9, "told(2, 0)", x.told(2, 0), -1);
    due(9, "told(-1, 0)", x.told(-1, 0), -1);
    int[][] acts = {{0, 0, 1, 1, -1}, {0, 1, 0, 0, 2}, {0, 2, 2, 1, -1}, {0, 3, 0, -1, -1}, {0, 4, 0, -1, -1}};
    int n = 0;
    for (int[] a : acts) due(5, "an ACT of each kind", x.act(a[0], a[1], a[2], a[3], a[4]), ++n);
    int[][] wrongActs = {{2, 5, 0, -1, -1}, {-1, 5, 0, -1, -1}, {0, 6, 0, -1, -1}, {0, -1, 0, -1, -1},
        {0, 5, 3, -1, -1}, {0, 5, -1, -1, -1}, {0, 0, 0, 2, -1}, {0, 0, 0, -1, -1}, {0, 3, 0, 0, -1},
        {0, 1, 0, 0, -1}, {0, 1, 0, 0, 3}, {0, 0, 0, 0, 1}, {0, 5, 0, -1, 0}, {0, 5, 0, -2, -1}, {0, 2, 0, 0, 0}};
    for (int[] a : wrongActs) due(5, "an ACT not as said", x.act(a[0], a[1], a[2], a[3], a[4]), -1);
    due(5, "the sixth ACT", x.act(0, 5, 0, -1, -1), 6);
    due(5, "a seventh ACT", x.act(0, 5, 0, -1, -1), -2);
    due(5, "a seventh ACT that is none", x.act(0, 6, 0, -1, -1), -1);
    due(6, "bare(0)", x.bare(0), 6);
    due(6, "bare(0) again", x.bare(0), 0);
    due(6, "bare(2)", x.bare(2), -1);
    due(7, "drop(0)", x.drop(0), 1);
    due(9, "told(0, 6) when DROPPED", x.told(0, 6), 1);
    due(9, "told(0, 0) when DROPPED", x.told(0, 0), 26);
    due(46, "those that aren't DROPPED", x.count(4), 1);
    due(6, "bare of a DROPPED one", x.bare(0), -1);
    due(5, "act of a DROPPED one", x.act(0, 5, 0, -1, -1), -1);
    due(8, "move of a DROPPED one", x.move(0, 3), -1);
    due(17, "stands of a DROPPED one", x.stands(0, 0, 0), -1);
    due(7, "drop(0) again", x.drop(0), 0);
    due(7, "drop(2)", x.drop(2), -1);
    due(7, "drop(-1)", x.drop(-1), -1);
    due(8, "move(0, 4)", x.move(0, 4), 26);
    due(8, "move(0, 5)", x.move(0, 5), 4);
    due(8, "move(0, 0)", x.move(0, 0), -1);
    due(8, "move(0, 27)", x.move(0, 27), -1);
    due(8, "move(2, 1)", x.move(2, 1), -1);
    due(9, "told(0, 0) after all", x.told(0, 0), 5);
    for (int i = 2; i < 100; i++) due(4, "SCENE " + i, x.scene(1, 0, 1, 0, 0), i);
    due(4, "SCENE 100", x.scene(1, 0, 1, 0, 0), -2);
    due(4, "SCENE 100 that is none", x.scene(1, 0, 0, 0, 0), -1);
    x.drop(99);
    due(4, "DROPPED ones were told too", x.scene(1, 0, 1, 0, 0), -2);
  }

  private static void airOrder() {
    fresh(2, 1, 1);
    due(10, "aired(0) of nothing", x.aired(0), -1);
    int[] weeks = {3, 1, 3, 2, 1};
    for (int w : weeks) x.scene(w, 0, 1, 0, 0);
    int[] order = {1, 4, 3, 0, 2};
    for (int i = 0; i < 5; i++) due(10, "aired(" + i + ")", x.aired(i), order[i]);
    due(10, "aired(5)", x.aired(5), -1);
    due(10, "aired(-1)", x.aired(-1), -1);
    x.move(4, 3);
    x.move(0, 1);
    x.drop(3);
    int[] later = {0, 1, 2, 4, -1};
    for (int i = 0; i < 5; i++) due(10, "aired(" + i + ") later", x.aired(i), later[i]);
  }

  private static void faultsInOrder() {
    fresh(4, 1, 2);
    due(11, "faults() of nothing", x.faults(), 0);
    due(12, "fault(0, 0) of nothing", x.fault(0, 0), -1);
    x.bible(0, 0);
    x.scene(1, 0, 1, 7, 0);
    x.act(0, 5, 3, -1, -1); // 2: not there
    x.act(0, 1, 0, 0, 3); // 2: the hearer is not there
    x.act(0, 1, 1, 0, 0); // 3 goes ahead of 4
    x.act(0, 1, 0, 0, 0); // 4: to themselves
    x.act(0, 3, 2, -1, -1);
    x.act(0, 3, 1, -1, -1);
    x.scene(2, 0, 1, 15, 0); // 1 and 2 are dead in it: 1 at its beginning, 2 has a RETURN
    x.act(1, 1, 0, 0, 2); // 1: the hearer is dead
    x.act(1, 4, 2, -1, -1); // 5
    x.act(1, 4, 0, -1, -1); // 6
    x.act(1, 2, 3, 0, -1); // 3
    x.act(1, 0, 0, 0, -1); // 4
    x.scene(3, 0, 1, 1, 0);
    x.act(2, 4, 1, -1, -1); // 2 goes ahead of 5
    x.act(2, 2, 0, 0, -1); // well
    int[][] want = {{0, 0, 2, 3}, {0, 1, 2, 0}, {0, 2, 3, 1}, {0, 3, 4, 0}, {1, -1, 1, 1}, {1, 0, 1, 0}, {1, 1, 5, 2},
        {1, 2, 6, 0}, {1, 3, 3, 3}, {1, 4, 4, 0}, {2, 0, 2, 1}};
    due(11, "faults()", x.faults(), want.length);
    for (int i = 0; i < want.length; i++)
      for (int what = 0; what < 4; what++) due(12, "fault(" + i + ", " + what + ")", x.fault(i, what), want[i][what]);
    due(12, "one fault too far", x.fault(want.length, 0), -1);
    due(12, "fault(-1, 0)", x.fault(-1, 0), -1);
    due(12, "fault(0, 4)", x.fault(0, 4), -1);
    due(12, "fault(0, -1)", x.fault(0, -1), -1);
    x.scene(3, 0, 1, 6, 0);
    due(12, "two dead ones, by number", x.fault(11, 3), 1);
    due(12, "two dead ones, the other", x.fault(12, 3), 2);
    due(11, "faults() with them", x.faults(), 13);
  }

  private static void knowledge() {
    fresh(4, 1, 3);
    x.bible(0, 0);
    x.scene(2, 0, 1, 15, 0);
    x.act(0, 1, 0, 0, 1);
    x.act(0, 1, 1, 0, 2);
    x.act(0, 0, 3, 0, -1);
    x.act(0, 0, 2, 1, -1);
    due(13, "since by the BIBLE", x.since(0, 0), -2);
    due(13, "since by a SCENE", x.since(2, 0), 0);
    due(13, "since not at all", x.since(0, 1), -3);
    due(14, "teller of the BIBLE's", x.teller(0, 0), -2);
    due(14, "teller of who LEARNED", x.teller(3, 0), -2);
    due(14, "teller", x.teller(2, 0), 1);
    due(14, "teller of who doesn't know", x.teller(1, 1), -3);
    int[] far = {0, 1, 2, 0};
    for (int p = 0; p < 4; p++) due(15, "tellings(" + p + ", 0)", x.tellings(p, 0), far[p]);
    due(15, "tellings of who doesn't know", x.tellings(1, 1), -3);
    due(16, "shown(0)", x.shown(0), 0);
    due(16, "shown(2)", x.shown(2), -3);
    x.scene(1, 0, 1, 1, 0);
    x.act(1, 2, 0, 0, -1);
    due(16, "shown(0) by a USE ahead", x.shown(0), 1);
    x.act(1, 2, 0, 2, -1);
    due(16, "a USE that isn't DONE", x.shown(2), -3);
    int[][] none = {{-1, 0}, {4, 0}, {0, -1}, {0, 3}};
    for (int[] n : none) {
      due(13, "since of none", x.since(n[0], n[1]), -1);
      due(14, "teller of none", x.teller(n[0], n[1]), -1);
      due(15, "tellings of none", x.tellings(n[0], n[1]), -1);
    }
    due(16, "shown(3)", x.shown(3), -1);
    due(16, "shown(-1)", x.shown(-1), -1);
  }

  private static void standing() {
    fresh(3, 1, 3);
    x.bible(1, 2);
    x.scene(1, 0, 1, 7, 0);
    x.act(0, 5, 1, -1, -1);
    x.act(0, 5, 1, -1, -1);
    x.act(0, 0, 1, 0, -1);
    x.act(0, 3, 2, -1, -1);
    x.act(0, 5, 2, -1, -1);
    x.scene(1, 0, 1, 7, 0);
    due(17, "alive at first", x.stands(0, 2, 0), 0);
    due(17, "dead then", x.stands(1, 2, 0), 1);
    due(17, "LOOK at first", x.stands(0, 1, 1), 0);
    due(17, "LOOK then", x.stands(1, 1, 1), 2);
    due(17, "the dead one's LOOK", x.stands(1, 2, 1), 0);
    due(17, "SECRETS at first", x.stands(0, 1, 2), 1);
    due(17, "SECRETS then", x.stands(1, 1, 2), 2);
    due(17, "no such SCENE", x.stands(2, 0, 0), -1);
    due(17, "no such PERSON", x.stands(0, 3, 0), -1);
    due(17, "no such what", x.stands(0, 0, 3), -1);
    due(17, "no such what below", x.stands(0, 0, -1), -1);
  }

  /** Whether PERSON 1, who dies in WEEK 2, may return in WEEK 3 by a RULE. */
  private static void letsBy(String what, long wanted, long... bytes) {
    fresh(3, 1, 2);
    x.bible(0, 1);
    x.letters(2, 2, 20);
    x.scene(2, 0, 1, 7, 0);
    x.act(0, 3, 1, -1, -1);
    x.scene(3, 0, 1, 7, 0);
    x.act(1, 4, 1, -1, -1);
    x.scene(4, 0, 1, 7, 0);
    row(0, 1, bytes);
    due(18, what + " is a RULE", x.rule(1, 0) > 0 ? 1 : 0, 1);
    due(18, what, 1 - x.stands(2, 1, 0), wanted);
  }

  private static void rules() {
    letsBy("0 knows 1", 1, 1, 0, 1, 0);
    letsBy("0 knows 0", 0, 1, 0, 0, 0);
    letsBy("1 is dead", 1, 2, 1, 0);
    letsBy("0 is dead", 0, 2, 0, 0);
    letsBy("HEAT 20 is 20", 1, 3, 2, 20, 0);
    letsBy("HEAT 20 is 21", 0, 3, 2, 21, 0);
    letsBy("HEAT of another", 0, 3, 1, 1, 0);
    letsBy("WEEK 3", 1, 4, 3, 0);
    letsBy("WEEK 4", 0, 4, 4, 0);
    letsBy("a number below 0", 1, 4, 200, 0);
    letsBy("both", 0, 4, 3, 4, 4, 5, 0);
    letsBy("both well", 1, 4, 3, 4, 2, 5, 0);
    letsBy("one of two", 1, 4, 4, 4, 3, 6, 0);
    letsBy("the other of two", 1, 4, 3, 4, 4, 6, 0);
    letsBy("none of two", 0, 4, 5, 4, 4, 6, 0);
    letsBy("not", 0, 4, 3, 7, 0);
    letsBy("not twice", 1, 4, 3, 7, 7, 0);
    letsBy("what stands behind the 0", 1, 4, 3, 0, 99);
    letsBy("under the last two", 0, 4, 4, 4, 3, 4, 3, 5, 5, 0);
    letsBy("eight deep", 1, 4, 1, 4, 1, 4, 1, 4, 1, 4, 1, 4, 1, 4, 1, 4, 1, 5, 5, 5, 5, 5, 5, 5, 0);
    long[][] bad = {{}, {0}, {8}, {-1}, {4, 1}, {4}, {1, 0}, {1, 3, 0, 0}, {1, 0, 2, 0}, {2, 3, 0}, {2, -1, 0},
        {3, 3, 1, 0}, {3, 0}, {4, 1, 5, 0}, {4, 1, 4, 1, 0}, {7, 0}, {4, 1, 6, 0}, {4, 1, 4, 1, 5, 1, 0, 9},
        {4, 1, 4, 1, 4, 1, 4, 1, 4, 1, 4, 1, 4, 1, 4, 1, 4, 1, 5, 0}};
    int[] place = {0, 0, 0, 0, 2, 0, 0, 0, 0, 0, 0, 0, 0, 2, 4, 0, 2, 5, 16};
    for (int i = 0; i < bad.length; i++) {
      row(0, 1, bad[i]);
      due(18, "the FIRST FAULT of " + java.util.Arrays.toString(bad[i]), x.rule(0, 0), -100 - place[i]);
    }
    long[] many = new long[64];
    many[0] = 4;
    for (int i = 2; i < 41; i++) many[i] = 7;
    row(0, 1, many);
    due(18, "40 ORDERS", x.rule(0, 0), 40);
    x.put(0, 41, 7);
    due(18, "41 ORDERS", x.rule(0, 0), -2);
    due(46, "RULES", x.count(5), 2);
    due(19, "unrule(0)", x.unrule(0), 40);
    due(19, "unrule(0) again", x.unrule(0), 0);
    due(46, "RULES then", x.count(5), 1);
    due(19, "unrule(3)", x.unrule(3), -1);
    due(19, "unrule(-1)", x.unrule(-1), -1);
    due(18, "rule(3, 0)", x.rule(3, 0), -1);
    due(18, "rule(0, 6)", x.rule(0, 6), -1);
    due(18, "rule(0, -1)", x.rule(0, -1), -1);
    due(18, "rule(0, 5)", x.rule(0, 5), -11);
    for (int sort = 2; sort <= 4; sort++) {
      row(1, sort, 4, 1, 0);
      due(18, "rule by another sort", x.rule(0, 1), -12);
    }
    x.keep(1);
    due(18, "rule by a COPY", x.rule(0, 1), -12);
  }

  private static void heat() {
    fresh(1, 1, 1);
    due(20, "letters(0, 1, 9999)", x.letters(0, 1, 9999), 0);
    due(20, "letters(0, 1, 9)", x.letters(0, 1, 9), 9999);
    due(20, "letters(0, 3, 2)", x.letters(0, 3, 2), 0);
    int[] want = {0, 9, 6, 6, 4, 3, 2, 1, 0};
    for (int w = 1; w <= 9; w++) due(21, "heat(0, " + w + ")", x.heat(0, w), want[w - 1]);
    due(21, "heat(1, 2)", x.heat(1, 2), 0);
    due(20, "letters(0, 26, 1)", x.letters(0, 26, 1), 0);
    int[][] none = {{3, 1, 1}, {-1, 1, 1}, {0, 0, 1}, {0, 27, 1}, {0, 1, -1}, {0, 1, 10000}};
    for (int[] n : none) due(20, "letters of none", x.letters(n[0], n[1], n[2]), -1);
    due(21, "heat(3, 1)", x.heat(3, 1), -1);
    due(21, "heat(-1, 1)", x.heat(-1, 1), -1);
    due(21, "heat(0, 0)", x.heat(0, 0), -1);
    due(21, "heat(0, 27)", x.heat(0, 27), -1);
  }

  private static void turnsAndWeeks() {
    fresh(2, 1, 1);
    for (int k = 1; k <= 5; k++) due(22, "TURN " + k, x.turn(1, 15, 3, 26, 26), k);
    due(22, "a sixth TURN", x.turn(1, 1, 0, 1, 26), -2);
    due(22, "a sixth TURN that is none", x.turn(1, 0, 0, 1, 26), -1);
    int[][] none = {{3, 1, 0, 1, 1}, {-1, 1, 0, 1, 1}, {0, 0, 0, 1, 1}, {0, 16, 0, 1, 1}, {0, 1, 4, 1, 1},
        {0, 1, -1, 1, 1}, {0, 1, 0, 0, 1}, {0, 1, 0, 1, 27}, {0, 1, 0, 2, 1}, {0, 1, 0, 27, 27}};
    for (int[] n : none) due(22, "turn not as said", x.turn(n[0], n[1], n[2], n[3], n[4]), -1);
    due(46, "TURNS of 0", x.count(10), 0);
    due(46, "TURNS of 1", x.count(11), 5);
    due(23, "unturn(1)", x.unturn(1), 5);
    due(23, "unturn(1) again", x.unturn(1), 0);
    due(23, "unturn(3)", x.unturn(3), -1);
    due(23, "unturn(-1)", x.unturn(-1), -1);
    due(24, "gap(2, 6, 6)", x.gap(2, 6, 6), 0);
    int[][] gaps = {{3, 1, 1}, {-1, 1, 1}, {0, 0, 1}, {0, 1, 7}, {0, 3, 2}};
    for (int[] g : gaps) due(24, "gap not as said", x.gap(g[0], g[1], g[2]), -1);
    due(25, "away(1, 26)", x.away(1, 26), 1);
    due(25, "away(1, 26) again", x.away(1, 26), 0);
    due(25, "away(2, 1)", x.away(2, 1), -1);
    due(25, "away(0, 0)", x.away(0, 0), -1);
    due(25, "away(0, 27)", x.away(0, 27), -1);
    due(26, "weeks(26)", x.weeks(26), 12);
    due(26, "weeks(1)", x.weeks(1), 26);
    due(26, "weeks(0)", x.weeks(0), -1);
    due(26, "weeks(27)", x.weeks(27), -1);
    due(46, "W", x.count(6), 1);
  }

  private static void dueLaid(String what, int load, int... weeks) {
    due(27, what, x.lay(), load);
    int i = 0;
    for (int t = 0; t < 3; t++)
      for (int k = 0; k < x.count(10 + t); k++) due(28, what + ": laid(" + t + ", " + k + ")", x.laid(t, k), weeks[i++]);
  }

  private static void layings() {
    fresh(3, 1, 1);
    dueLaid("nothing to lay", 0);
    x.scene(2, 0, 7, 0, 0);
    x.scene(13, 0, 15, 0, 0);
    dueLaid("SCENES alone, up to W", 7);
    x.drop(0);
    dueLaid("a DROPPED SCENE is no LOAD", 0);
    x.drop(0);
    x.weeks(3);
    x.turn(0, 5, 0, 1, 26);
    dueLaid("as late as may be", 7, 3);
    x.turn(1, 5, 0, 1, 26);
    dueLaid("the lesser mask first", 7, 1, 3);
    x.turn(2, 2, 0, 1, 26);
    dueLaid("three at once", 7, 1, 3, 3);
    x.away(0, 3);
    x.unturn(2);
    x.turn(2, 2, 1, 1, 3);
    dueLaid("one is AWAY", 7, 1, 3, 1);
    x.away(0, 1);
    dueLaid("AWAY makes it heavier", 9, 1, 3, 2);
    x.away(0, 2);
    due(27, "AWAY in all", x.lay(), -3);
    due(28, "none is kept then", x.laid(0, 0), -1);
    fresh(1, 1, 1);
    x.weeks(26);
    for (int k = 0; k < 5; k++) x.turn(0, 1, 0, 1, 26);
    dueLaid("five TURNS, W 26", 1, 22, 23, 24, 25, 26);
    x.gap(0, 6, 6);
    dueLaid("five TURNS, GAP 6", 1, 2, 8, 14, 20, 26);
    x.weeks(24);
    due(27, "too few WEEKS", x.lay(), -3);
    x.gap(0, 1, 5);
    x.lay();
    x.unturn(0);
    due(28, "a kept LAYING stays", x.laid(0, 4), 24);
    due(28, "no such TURN", x.laid(0, 5), -1);
    due(28, "no such TURN below", x.laid(0, -1), -1);
    due(28, "no such THREAD", x.laid(3, 0), -1);
    due(28, "no such THREAD below", x.laid(-1, 0), -1);
    due(28, "none of THREAD 1", x.laid(1, 0), -1);
    fresh(1, 1, 1);
    x.weeks(26);
    for (int t = 0; t < 3; t++) for (int k = 0; k < 5; k++) x.turn(t, 15, 0, 1, 26);
    due(27, "fifteen TURNS apart", x.lay(), 15);
    x.weeks(14);
    due(27, "fifteen TURNS in 14 WEEKS", x.lay(), 30);
  }

  private static void judging() {
    fresh(2, 1, 1);
    due(29, "judge(5) of nothing", x.judge(5), -11);
    row(0, 2);
    due(29, "no TURNS, no row", x.judge(0), 0);
    x.scene(4, 0, 10, 0, 0);
    x.scene(13, 0, 15, 0, 0);
    x.turn(0, 5, 1, 2, 8);
    x.turn(0, 6, 0, 1, 26);
    x.turn(2, 7, 0, 1, 26);
    x.gap(0, 2, 4);
    row(0, 2, 2, 4, 4);
    due(29, "a LAYING", x.judge(0), 23);
    row(0, 2, 2, 4, 4, 99);
    due(29, "a longer row", x.judge(0), 23);
    row(0, 2, 1, 4, 4);
    due(29, "ahead of its first WEEK", x.judge(0), -100);
    row(0, 2, 9, 12, 4);
    due(29, "behind its last WEEK", x.judge(0), -100);
    row(0, 2, 2, 3, 4);
    due(29, "below the GAP", x.judge(0), -101);
    row(0, 2, 2, 7, 4);
    due(29, "above the GAP", x.judge(0), -101);
    row(0, 2, 2, 6, 13);
    due(29, "above W", x.judge(0), -102);
    row(0, 2, 2, 6, 0);
    due(29, "WEEK 0", x.judge(0), -102);
    row(0, 2, 2, 6, -1);
    due(29, "WEEK -1", x.judge(0), -102);
    row(0, 2, 2, 6);
    due(29, "too few", x.judge(0), -13);
    row(0, 2, 2, 7);
    due(29, "too few, and not well", x.judge(0), -101);
    x.away(0, 2);
    row(0, 2, 2, 6, 1);
    due(29, "AWAY", x.judge(0), -100);
    x.away(0, 2);
    x.away(1, 2);
    due(29, "another AWAY", x.judge(0), 10);
    due(29, "judge(6)", x.judge(6), -1);
    due(29, "judge(-1)", x.judge(-1), -1);
    for (int sort = 1; sort <= 4; sort++) {
      if (sort == 2) continue;
      row(1, sort, 2, 6, 1);
      due(29, "another sort", x.judge(1), -12);
    }
    due(28, "judge() keeps nothing", x.laid(0, 0), -1);
  }

  private static void blocks() {
    fresh(2, 1, 1);
    due(30, "off(1, 5)", x.off(1, 5), 1);
    due(30, "off(1, 5) again", x.off(1, 5), 0);
    due(30, "off(2, 0)", x.off(2, 0), -1);
    due(30, "off(-1, 0)", x.off(-1, 0), -1);
    due(30, "off(0, 6)", x.off(0, 6), -1);
    due(30, "off(0, -1)", x.off(0, -1), -1);
    due(31, "an empty BLOCK", x.block(1, 26, 6, 200, 8), 0);
    due(32, "its PLAN", x.plan(), 0);
    due(33, "its SCENES", x.taped(0, 0), -1);
    int[][] none = {{0, 1, 1, 1, 1}, {1, 27, 1, 1, 1}, {2, 1, 1, 1, 1}, {1, 1, 0, 1, 1}, {1, 1, 7, 1, 1},
        {1, 1, 1, 0, 1}, {1, 1, 1, 201, 1}, {1, 1, 1, 1, 0}, {1, 1, 1, 1, 9}};
    for (int[] n : none) due(31, "block not as said", x.block(n[0], n[1], n[2], n[3], n[4]), -1);
    for (int i = 0; i < 8; i++) x.scene(1 + i % 2, 0, 1, 1, 0);
    due(31, "eight SCENES", x.block(1, 2, 6, 200, 8), 8);
    x.scene(3, 0, 1, 1, 0);
    due(31, "nine SCENES", x.block(1, 3, 6, 200, 8), -4);
    due(31, "nine SCENES, not as said", x.block(1, 3, 6, 201, 8), -1);
    due(32, "the BLOCK ahead stays", x.plan(), 1);
    x.move(8, 2);
    due(32, "nine SCENES now", x.plan(), -4);
    due(33, "the PLAN stays", x.taped(1, 0), 2);
    row(0, 1, 0, 0, 0, 0, 0, 0, 0, 0, 0);
    due(34, "nine SCENES now", x.proof(0), -4);
    due(34, "nine SCENES ahead of NOTHING", x.proof(5), -4);
  }

  private static void duePlan(String what, int cost, int... days) {
    due(32, what, x.plan(), cost);
    for (int i = 0; i < days.length; i++) due(33, what + ": DAY of " + i, x.taped(i, 1), days[i]);
    due(33, what + ": one too far", x.taped(days.length, 1), -1);
  }

  private static void plans() {
    fresh(4, 3, 1);
    due(32, "no BLOCK", x.plan(), -1);
    x.scene(2, 0, 5, 3, 0);
    x.scene(1, 1, 5, 12, 0);
    x.scene(2, 2, 5, 3, 0);
    due(31, "three SCENES", x.block(1, 2, 3, 15, 3), 3);
    duePlan("all on a DAY", 4, 0, 0, 0);
    due(33, "in AIR ORDER", x.taped(0, 0), 1);
    due(33, "the next", x.taped(1, 0), 0);
    due(33, "no such what", x.taped(0, 2), -1);
    due(33, "no such what below", x.taped(0, -1), -1);
    due(33, "no such SCENE below", x.taped(-1, 0), -1);
    x.block(1, 2, 3, 14, 3);
    duePlan("too many MINUTES for a DAY", 4, 0, 1, 1);
    x.block(1, 2, 3, 15, 2);
    duePlan("too many SETS for a DAY", 4, 0, 1, 1);
    x.off(0, 1);
    duePlan("one OFF", 4, 0, 2, 2);
    x.off(1, 2);
    duePlan("another OFF", 4, 1, 0, 0);
    x.off(0, 0);
    due(32, "no DAY for them", x.plan(), -3);
    due(33, "none is kept then", x.taped(0, 0), -1);
    fresh(2, 2, 1);
    for (int i = 0; i < 3; i++) x.scene(1, 0, 10, 1, 0);
    x.block(1, 1, 6, 10, 1);
    due(32, "a SET over three DAYS", x.plan(), -3);
    x.block(1, 1, 6, 20, 1);
    duePlan("a SET over two DAYS", 2, 0, 0, 1);
    x.off(0, 1);
    due(32, "two DAYS that do not touch", x.block(1, 1, 3, 20, 1) == 3 ? x.plan() : 0, -3);
    fresh(2, 2, 1);
    x.scene(1, 0, 5, 1, 0);
    x.act(0, 5, 0, -1, -1);
    x.scene(1, 1, 5, 3, 0);
    x.scene(1, 0, 5, 2, 0);
    x.off(0, 0);
    x.block(1, 1, 2, 10, 2);
    duePlan("LOOKS on one DAY", 3, 1, 1, 0);
    x.block(1, 1, 3, 5, 2);
    x.off(0, 0);
    duePlan("LOOKS in order", 4, 0, 2, 1);
    x.move(0, 2);
    x.block(1, 2, 3, 5, 2);
    duePlan("no LOOK grew then", 4, 0, 1, 2);
    x.drop(1);
    duePlan("its SCENES as they are now", 2, 0, 1);
  }

  private static void proofs() {
    fresh(3, 3, 1);
    due(34, "no BLOCK", x.proof(5), -1);
    x.scene(1, 0, 5, 1, 0);
    x.act(0, 5, 0, -1, -1);
    x.scene(1, 1, 5, 2, 0);
    x.scene(1, 0, 5, 3, 0);
    x.block(1, 1, 3, 10, 2);
    due(34, "proof(6)", x.proof(6), -1);
    due(34, "NOTHING", x.proof(5), -11);
    row(1, 2, 0, 0, 1);
    due(34, "another sort", x.proof(1), -12);
    row(0, 1, 0, 0, 1);
    due(34, "a PLAN", x.proof(0), 4);
    row(0, 1, 0, 0, 1, 77);
    due(34, "a longer row", x.proof(0), 4);
    row(0, 1, 0, 0);
    due(34, "too few", x.proof(0), -13);
    row(0, 1, 0, 3);
    due(34, "too few, and no such DAY", x.proof(0), -101);
    row(0, 1, -1, 0, 0);
    due(34, "a DAY below 0", x.proof(0), -100);
    row(0, 1, 0, 0, 0);
    due(34, "too many MINUTES", x.proof(0), -102);
    row(0, 1, 0, 0, 2);
    due(34, "a SET's DAYS too far apart", x.proof(0), -102);
    row(0, 1, 1, 0, 0);
    due(34, "LOOKS", x.proof(0), -102);
    x.block(1, 1, 3, 10, 1);
    row(0, 1, 0, 0, 1);
    due(34, "too many SETS", x.proof(0), -101);
    x.off(1, 2);
    row(0, 1, 0, 2, 1);
    due(34, "OFF", x.proof(0), -101);
    x.off(1, 2);
    due(34, "OFF no more", x.proof(0), 4);
    due(33, "proof() keeps nothing", x.taped(0, 0), -1);
  }

  private static void dueCut(String what, int week, int minutes, int... ends) {
    due(35, what, x.cut(week), minutes);
    for (int e = 0; e < ends.length; e++) due(36, what + ": PART " + e, x.part(week, e), ends[e]);
  }

  private static void cuts() {
    fresh(1, 1, 1);
    dueCut("no SCENES", 3, -3, -3, -3, -3, -3, -3);
    int[] minutes = {4, 4, 4, 4, 4};
    for (int m : minutes) x.scene(3, 0, m, 0, 1);
    dueCut("five SCENES", 3, 4, 0, 1, 2, 3, 4);
    x.scene(3, 0, 1, 0, 0);
    dueCut("the last is no HOOK", 3, 5, 0, 1, 2, 3, 5);
    x.scene(3, 0, 8, 0, 1);
    dueCut("earliest ends", 3, 9, 0, 1, 2, 4, 6);
    fresh(1, 1, 1);
    int[] more = {3, 3, 1, 1, 9, 1, 1};
    for (int i = 0; i < 7; i++) x.scene(1, 0, more[i], 0, i == 4 ? 0 : 1);
    dueCut("a PART within the least", 1, 10, 0, 1, 3, 5, 6);
    x.drop(6);
    dueCut("without the last", 1, 10, 0, 1, 2, 3, 5);
    x.drop(0);
    dueCut("too few HOOKS", 1, -3, -3, -3, -3, -3, -3);
    int[][] none = {{0, 0}, {27, 0}, {1, 5}, {1, -1}};
    for (int[] n : none) due(36, "part of none", x.part(n[0], n[1]), -1);
    due(35, "cut(0)", x.cut(0), -1);
    due(35, "cut(27)", x.cut(27), -1);
    fresh(1, 1, 1);
    for (int i = 0; i < 100; i++) x.scene(9, 0, 15, 0, 1);
    dueCut("a hundred SCENES", 9, 300, 19, 39, 59, 79, 99);
  }

  private static void leaving() {
    fresh(4, 1, 1);
    x.bible(0, 0);
    x.scene(1, 0, 1, 15, 0);
    x.act(0, 1, 0, 0, 1);
    x.scene(2, 0, 1, 15, 0);
    x.act(1, 1, 1, 0, 2);
    x.act(1, 5, 1, -1, -1);
    x.act(1, 5, 3, -1, -1);
    x.scene(3, 0, 1, 15, 0);
    x.act(2, 2, 2, 0, -1);
    x.act(2, 1, 2, 0, 1); // a FAULT now
    x.act(2, 1, 0, 0, 3);
    due(37, "leave(1, 1)", x.leave(1, 1), 4);
    due(37, "leave(1, 2)", x.leave(1, 2), 3);
    due(37, "leave(1, 3)", x.leave(1, 3), 0);
    due(37, "leave(0, 1)", x.leave(0, 1), 4);
    due(37, "leave(3, 3)", x.leave(3, 3), 1);
    due(37, "leave(3, 26)", x.leave(3, 26), 0);
    due(37, "leave(4, 1)", x.leave(4, 1), -1);
    due(37, "leave(-1, 1)", x.leave(-1, 1), -1);
    due(37, "leave(0, 0)", x.leave(0, 0), -1);
    due(37, "leave(0, 27)", x.leave(0, 27), -1);
    due(37, "nobody has left", x.faults(), 1);
    fresh(2, 1, 1);
    x.scene(1, 0, 1, 3, 0);
    x.act(0, 3, 0, -1, -1);
    x.scene(2, 0, 1, 3, 0);
    x.act(1, 5, 0, -1, -1); // DONE only if 0 has not died
    x.act(1, 5, 1, -1, -1);
    due(37, "DONE then but not now is no HARM", x.leave(0, 1), 1);
  }

  private static void tapeRows() {
    x = new ToBeContinued();
    long big = 0x123456789ABCDEF0L;
    long[] narrowed = {(byte) big, (short) big, (int) big, big};
    for (int sort = 1; sort <= 4; sort++) {
      due(38, "tape of sort " + sort, x.tape(sort, sort, 64), 64);
      dueAt("all 0", at(sort, 63), "0");
      due(43, "put", x.put(sort, 63, big), 1);
      dueAt("narrowed", at(sort, 63), "" + narrowed[sort - 1]);
    }
    due(38, "tape again", x.tape(4, 4, 64), 64);
    dueAt("all 0 again", at(4, 63), "0");
    due(38, "tape of 0 elements", x.tape(0, 1, 0), 0);
    dueAt("it has no place", at(0, 0), "state");
    due(42, "but holds a row", x.clear(0), 1);
    int[][] none = {{6, 1, 1}, {-1, 1, 1}, {0, 0, 1}, {0, 5, 1}, {0, 1, 65}, {6, 1, -1}, {0, 0, -1}};
    for (int[] n : none) due(38, "tape not as said", x.tape(n[0], n[1], n[2]), -1);
    due(38, "a size below 0", x.tape(0, 1, -1), -14);
    due(38, "the least size", x.tape(0, 1, Integer.MIN_VALUE), -14);
    due(42, "a refused tape() changes nothing", x.clear(0), 0);
    due(42, "clear(3)", x.clear(3), 3);
    due(42, "clear(3) again", x.clear(3), 0);
    due(42, "clear(-1)", x.clear(-1), -1);
    due(42, "clear(6)", x.clear(6), -1);
    due(43, "put(6, 0, 1)", x.put(6, 0, 1), -1);
    due(43, "put into NOTHING", x.put(3, 0, 1), -11);
    due(43, "put behind the end", x.put(1, 64, 1), -13);
    due(43, "put below 0", x.put(1, -1, 1), -13);
    x.keep(3);
    due(43, "put into a COPY", x.put(3, 0, 1), -12);
    dueAt("at of no TAPE", at(6, 0), "argument");
    dueAt("at of no TAPE below", at(-1, 0), "argument");
    dueAt("at of NOTHING", at(0, 0), "state");
    dueAt("at of a COPY", at(3, 0), "state");
    dueAt("at below 0", at(1, -1), "state");
    dueAt("at behind the end", at(1, 64), "state");
    copying();
  }

  private static void copying() {
    x = new ToBeContinued();
    row(0, 3, 1, 2, 3, 4, 5);
    row(1, 3, 9, 9);
    due(45, "copy onto itself", x.copy(0, 0, 0, 1, 4), 4);
    long[] shifted = {1, 1, 2, 3, 4};
    for (int i = 0; i < 5; i++) dueAt("shifted up", at(0, i), "" + shifted[i]);
    due(45, "copy back", x.copy(0, 1, 0, 0, 4), 4);
    long[] back = {1, 2, 3, 4, 4};
    for (int i = 0; i < 5; i++) dueAt("shifted down", at(0, i), "" + back[i]);
    due(45, "copy to another", x.copy(0, 3, 1, 0, 2), 2);
    dueAt("copied", at(1, 0), "4");
    due(45, "copy nothing at the end", x.copy(0, 5, 1, 2, 0), 0);
    int[][] place = {{0, 6, 1, 0, 0}, {0, 0, 1, 3, 0}, {0, 0, 1, 0, 3}, {0, 4, 1, 0, 2}, {0, -1, 1, 0, 1},
        {0, 0, 1, -1, 1}, {0, 0, 1, 0, -1}, {0, 1, 1, 1, Integer.MAX_VALUE}, {0, Integer.MAX_VALUE, 1, 0, 1},
        {0, 0, 1, Integer.MAX_VALUE, 1}};
    for (int[] p : place) due(45, "copy out of place", x.copy(p[0], p[1], p[2], p[3], p[4]), -13);
    due(45, "copy of no TAPE", x.copy(6, 0, 1, 0, 0), -1);
    due(45, "copy to no TAPE", x.copy(5, 0, -1, 0, 0), -1);
    due(45, "copy of NOTHING", x.copy(5, 0, 1, 0, -1), -11);
    due(45, "copy to NOTHING", x.copy(1, 0, 5, 0, -1), -11);
    row(2, 4, 1);
    due(45, "copy to another sort", x.copy(0, 0, 2, 0, 1), -12);
    x.keep(3);
    x.keep(4);
    due(45, "copy of a COPY", x.copy(3, 0, 0, 0, 1), -12);
    due(45, "copy to a COPY", x.copy(0, 0, 3, 0, 1), -12);
    due(45, "copy of two COPIES", x.copy(3, 0, 4, 0, 0), -12);
  }

  private static void copies() {
    fill();
    x.act(0, 3, 0, -1, -1);
    x.drop(0);
    due(39, "keep(1)", x.keep(1), 1);
    due(39, "keep(6)", x.keep(6), -1);
    due(39, "keep(-1)", x.keep(-1), -1);
    due(41, "a COPY without FAULTS", x.toss(1), -15);
    x.drop(0);
    due(41, "the COPY is not what is now", x.toss(1), -15);
    due(39, "keep(2)", x.keep(2), 1);
    due(41, "toss(2)", x.toss(2), 1);
    x.scene(5, 0, 1, 0, 0);
    x.bible(1, 1);
    x.unrule(0);
    due(40, "back(1)", x.back(1), 1);
    due(40, "its DROPPED one", x.told(0, 6), 1);
    due(40, "its ACTS", x.told(0, 5), 1);
    due(40, "its BIBLE", x.since(1, 1), -3);
    due(40, "its BIBLE too", x.since(0, 0), -2);
    due(40, "its RULES", x.count(5), 1);
    due(40, "no TURNS", x.count(10), 0);
    due(40, "no LAYING", x.laid(0, 0), -1);
    due(40, "no PLAN", x.taped(0, 0), -1);
    due(40, "no BLOCK", x.plan(), -1);
    due(40, "nobody AWAY", x.away(0, 1), 1);
    due(40, "nobody OFF", x.off(0, 0), 1);
    due(40, "LETTERS stay", x.heat(0, 2), 5);
    due(40, "W stays", x.count(6), 20);
    x.drop(0);
    x.begin(12, 8, 24);
    due(40, "the COPY stays", x.back(1), 1);
    due(40, "P of the COPY", x.count(0), 3);
    due(40, "S of the COPY", x.count(1), 2);
    due(40, "K of the COPY", x.count(2), 2);
    due(40, "what came later is not in it", x.told(0, 6), 1);
    due(40, "back(6)", x.back(6), -1);
    due(40, "back(5)", x.back(5), -11);
    due(40, "back(0)", x.back(0), -12);
    due(41, "toss(6)", x.toss(6), -1);
    due(41, "toss(5)", x.toss(5), -11);
    due(41, "toss(0)", x.toss(0), -12);
    due(42, "clear(1) of a COPY", x.clear(1), 5);
    fresh(2, 1, 1);
    x.scene(1, 0, 1, 1, 0);
    x.act(0, 3, 0, -1, -1);
    x.scene(2, 0, 1, 1, 0);
    x.act(1, 4, 0, -1, -1);
    row(0, 1, 3, 0, 7, 0);
    x.rule(0, 0);
    x.keep(1);
    due(41, "by no LETTERS", x.toss(1), 1);
    x.letters(0, 1, 7);
    due(41, "by the LETTERS of now", x.toss(1), -15);
  }

  private static void refusals() {
    x = new ToBeContinued();
    x.rule(0, 0);
    x.judge(0);
    x.block(1, 1, 1, 1, 1);
    x.scene(1, 0, 1, 0, 0);
    x.proof(0);
    x.back(0);
    x.toss(0);
    x.put(0, 0, 0);
    x.copy(0, 0, 0, 0, 0);
    due(46, "refused for NOTHING", x.count(7), 7);
    x.keep(0);
    x.rule(0, 0);
    x.judge(0);
    x.proof(0);
    x.put(0, 0, 0);
    x.copy(0, 0, 0, 0, 0);
    x.toss(0);
    due(46, "refused for CAST and THROWN", x.count(7), 13);
    x.tape(0, 1, 0);
    x.tape(0, 1, -1);
    x.back(0);
    x.toss(0);
    x.proof(0);
    x.put(0, 0, 0);
    x.copy(0, 0, 0, 1, 0);
    due(46, "refused for CAST, SIZE and PLACE", x.count(7), 19);
    x.tape(1, 2, 0);
    x.turn(0, 1, 0, 1, 1);
    x.judge(1);
    due(46, "refused by judge()", x.count(7), 20);
    at(5, 0);
    at(6, 0);
    x.rule(9, 9);
    x.tape(0, 1, 0);
    x.rule(0, 0);
    due(46, "what is none of the host's", x.count(7), 20);
    x.begin(0, 0, 0);
    due(46, "a refused begin()", x.count(7), 20);
    x.keep(0);
    x.back(0);
    due(46, "back() is no begin()", x.count(7), 20);
    x.begin(1, 1, 1);
    due(46, "since begin()", x.count(7), 0);
    for (int what : new int[] {-1, 8, 9, 13, Integer.MIN_VALUE, Integer.MAX_VALUE}) due(46, "no such what", x.count(what), -1);
  }
}
