import java.io.IOException;
import java.lang.reflect.InvocationTargetException;
import java.lang.reflect.Method;
import java.nio.file.DirectoryStream;
import java.nio.file.Files;
import java.nio.file.Path;
import java.util.ArrayList;
import java.util.Collections;
import java.util.HashMap;
import java.util.List;
import java.util.Map;
import java.util.Set;
import java.util.TreeSet;

/**
 * The boundary cases of the document, from the files in src/test/runs, each on a new object. Every case is then
 * played again without its refused calls and its questions: what is refused changes nothing, so that object must
 * answer whatever it is asked as the first one does.
 */
public final class BoundaryTest {
  private static final Path CASES = Path.of("src/test/runs");
  private static final int MOST_CALLS = 512;
  private static final int QUESTIONS_AT_ONCE = 300;
  private static final Set<String> QUESTIONS = Set.of("told", "aired", "faults", "fault", "since", "teller", "tellings",
      "shown", "stands", "heat", "laid", "judge", "taped", "proof", "cut", "part", "leave", "toss", "at", "count");
  private static final Map<String, Method> FACE = new HashMap<>();
  private static int wrong = 0;
  private static int rows = 0;

  /** One call of a run: its name and numbers, and the answer that is due ("" if any will do). */
  private record Call(String name, long[] numbers, String due) {
    String on(ToBeContinued x) {
      Method m = FACE.get(name);
      Object[] given = new Object[numbers.length];
      for (int i = 0; i < given.length; i++) {
        given[i] = m.getParameterTypes()[i] == long.class ? (Object) numbers[i] : (Object) (int) numbers[i];
      }
      try {
        return m.invoke(x, given).toString();
      } catch (InvocationTargetException thrown) {
        return "throws." + thrown.getCause().getClass().getSimpleName();
      } catch (IllegalAccessException never) {
        throw new IllegalStateException(never);
      }
    }

    String words() {
      StringBuilder text = new StringBuilder(name).append('(');
      for (int i = 0; i < numbers.length; i++) text.append(i == 0 ? "" : ", ").append(numbers[i]);
      return text.append(')').toString();
    }
  }

  private record Case(int promise, String words, List<Call> calls) {}

  public static void main(String[] args) throws IOException {
    for (Method m : ToBeContinued.class.getDeclaredMethods()) {
      if (java.lang.reflect.Modifier.isPublic(m.getModifiers())) FACE.put(m.getName(), m);
    }
    List<Case> cases = read();
    Set<Integer> held = new TreeSet<>();
    for (Case one : cases) {
      held.add(one.promise);
      play(one);
    }
    for (int promise = 1; promise <= 46; promise++) {
      if (!held.contains(promise)) fail("promise " + promise + " has no case");
    }
    System.out.println(cases.size() + " boundary cases with " + rows + " answers, " + wrong + " not as due");
    if (wrong != 0) System.exit(1);
  }

  private static void fail(String words) {
    wrong++;
    System.out.println(words);
  }

  private static List<Case> read() throws IOException {
    List<Case> cases = new ArrayList<>();
    for (String line : lines()) {
      String text = line.strip();
      if (text.isEmpty() || text.startsWith("#")) continue;
      if (text.startsWith("== ")) {
        String[] head = text.substring(3).split(" ", 2);
        cases.add(new Case(Integer.parseInt(head[0]), head[1], new ArrayList<>()));
      } else {
        for (String part : text.split(";")) addCalls(part.strip(), cases.get(cases.size() - 1).calls);
      }
    }
    return cases;
  }

  private static List<String> lines() throws IOException {
    List<Path> files = new ArrayList<>();
    try (DirectoryStream<Path> found = Files.newDirectoryStream(CASES, "*.txt")) {
      for (Path file : found) files.add(file);
    }
    Collections.sort(files);
    List<String> lines = new ArrayList<>();
    for (Path file : files) lines.addAll(Files.readAllLines(file));
    return lines;
  }

  /** "name n n .. = due", "5 x name n n .. = due" for five such calls, or "row d sort n n .." for a TAPE's elements. */
  private static void addCalls(String text, List<Call> calls) {
    int equals = text.indexOf('=');
    String due = equals < 0 ? "" : text.substring(equals + 1).strip();
    String[] words = (equals < 0 ? text : text.substring(0, equals)).strip().split(" +");
    if (words.length > 2 && words[1].equals("x")) {
      String rest = text.substring(text.indexOf('x') + 1).strip();
      for (int i = Integer.parseInt(words[0]); i > 0; i--) addCalls(rest, calls);
      return;
    }
    long[] numbers = numbers(words);
    if (words[0].equals("row")) {
      int n = numbers.length - 2;
      calls.add(new Call("tape", new long[] {numbers[0], numbers[1], n}, "" + n));
      for (int i = 0; i < n; i++) calls.add(new Call("put", new long[] {numbers[0], i, numbers[i + 2]}, "1"));
    } else {
      Method m = FACE.get(words[0]);
      if (m == null || m.getParameterCount() != numbers.length) throw new IllegalStateException("no call: " + text);
      calls.add(new Call(words[0], numbers, due));
    }
  }

  /** The numbers behind a name; "3*7" stands for 7 7 7. */
  private static long[] numbers(String[] words) {
    List<Long> numbers = new ArrayList<>();
    for (int i = 1; i < words.length; i++) {
      int star = words[i].indexOf('*');
      int times = star < 0 ? 1 : Integer.parseInt(words[i].substring(0, star));
      for (int n = 0; n < times; n++) numbers.add(number(words[i].substring(star + 1)));
    }
    return numbers.stream().mapToLong(Long::longValue).toArray();
  }

  private static long number(String word) {
    switch (word) {
      case "MIN": return Integer.MIN_VALUE;
      case "MAX": return Integer.MAX_VALUE;
      case "LONGMIN": return Long.MIN_VALUE;
      case "LONGMAX": return Long.MAX_VALUE;
      default: return Long.parseLong(word);
    }
  }

  private static void play(Case one) {
    ToBeContinued x = new ToBeContinued();
    List<Call> lasting = new ArrayList<>();
    String name = "promise " + one.promise + ", " + one.words + ": ";
    for (Call call : one.calls) {
      String got = call.on(x);
      if (!call.due.isEmpty()) {
        rows++;
        if (!got.equals(call.due)) fail(name + call.words() + " answered " + got + ", due is " + call.due);
      }
      if (!QUESTIONS.contains(call.name) && !isRefusal(got)) lasting.add(call);
    }
    if (one.calls.size() + QUESTIONS_AT_ONCE > MOST_CALLS) fail(name + "more calls than an object is used for");
    for (List<Call> questions : questions(x)) {
      for (int from = 0; from < questions.size(); from += QUESTIONS_AT_ONCE) {
        int to = Math.min(questions.size(), from + QUESTIONS_AT_ONCE);
        compare(name, one.calls, lasting, questions.subList(from, to));
      }
    }
  }

  private static boolean isRefusal(String answer) {
    if (answer.startsWith("throws.")) return true;
    long n = Long.parseLong(answer);
    return n == -1 || n == -2 || n == -4 || n >= -15 && n <= -11 || n <= -100;
  }

  private static void compare(String name, List<Call> all, List<Call> lasting, List<Call> questions) {
    ToBeContinued x = new ToBeContinued();
    ToBeContinued y = new ToBeContinued();
    for (Call call : all) call.on(x);
    for (Call call : lasting) call.on(y);
    for (Call call : questions) {
      String got = call.on(x);
      String due = call.on(y);
      if (!got.equals(due)) {
        fail(name + "then " + call.words() + " answers " + got + ", but " + due + " without what was refused");
        return;
      }
    }
  }

  private static void ask(List<Call> questions, String name, long... numbers) {
    questions.add(new Call(name, numbers, ""));
  }

  /** Rows of questions that tell all that an object holds; some change it, but each row is asked of two new objects. */
  private static List<List<Call>> questions(ToBeContinued x) {
    return List.of(ofWhatIsKept(), ofStory(x), ofTapes(), ofToggles(x), ofLetters(), ofGaps(), ofCopies());
  }

  private static List<Call> ofWhatIsKept() {
    List<Call> q = new ArrayList<>();
    for (int t = 0; t < 3; t++) for (int k = 0; k < 5; k++) ask(q, "laid", t, k);
    for (int i = 0; i < 8; i++) for (int what = 0; what < 2; what++) ask(q, "taped", i, what);
    for (int what = 0; what < 13; what++) if (what != 7) ask(q, "count", what);
    for (int d = 0; d < 6; d++) ask(q, "proof", d);
    for (int d = 0; d < 6; d++) ask(q, "judge", d);
    ask(q, "plan");
    for (int i = 0; i < 8; i++) ask(q, "taped", i, 1);
    ask(q, "lay");
    for (int t = 0; t < 3; t++) for (int k = 0; k < 5; k++) ask(q, "laid", t, k);
    return q;
  }

  private static List<Call> ofStory(ToBeContinued x) {
    List<Call> q = new ArrayList<>();
    int people = x.count(0);
    int faults = x.faults();
    for (int c = 0; c < x.count(3); c++) {
      ask(q, "aired", c);
      for (int what = 0; what < 7; what++) ask(q, "told", c, what);
      if (c < 10) for (int p = 0; p < people; p++) for (int what = 0; what < 3; what++) ask(q, "stands", c, p, what);
    }
    ask(q, "faults");
    for (int i = 0; i < faults; i++) for (int what = 0; what < 4; what++) ask(q, "fault", i, what);
    for (int s = 0; s < x.count(2); s++) {
      ask(q, "shown", s);
      for (int p = 0; p < people; p++) {
        ask(q, "since", p, s);
        ask(q, "teller", p, s);
        ask(q, "tellings", p, s);
      }
    }
    for (int p = 0; p < people; p++) for (int week = 1; week <= 26; week += 5) ask(q, "leave", p, week);
    for (int week = 1; week <= 26; week++) for (int e = 0; e < 5; e++) ask(q, "part", week, e);
    return q;
  }

  private static List<Call> ofTapes() {
    List<Call> q = new ArrayList<>();
    for (int d = 0; d < 6; d++) {
      for (int i = -1; i < 65; i++) ask(q, "at", d, i);
      ask(q, "rule", 0, d);
    }
    return q;
  }

  private static List<Call> ofToggles(ToBeContinued x) {
    List<Call> q = new ArrayList<>();
    for (int p = 0; p < x.count(0); p++) {
      for (int week = 1; week <= 26; week++) ask(q, "away", p, week);
      for (int day = 0; day < 6; day++) ask(q, "off", p, day);
      ask(q, "unrule", p);
    }
    return q;
  }

  private static List<Call> ofLetters() {
    List<Call> q = new ArrayList<>();
    for (int t = 0; t < 3; t++) {
      for (int week = 1; week <= 26; week++) ask(q, "heat", t, week);
      for (int week = 1; week <= 26; week++) ask(q, "letters", t, week, 0);
    }
    return q;
  }

  /** A THREAD's GAP is told by which WEEKS of two TURNS are a LAYING. */
  private static List<Call> ofGaps() {
    List<Call> q = new ArrayList<>();
    ask(q, "weeks", 26);
    for (int t = 0; t < 3; t++) {
      for (int other = 0; other < 3; other++) ask(q, "unturn", other);
      for (int k = 0; k < 2; k++) ask(q, "turn", t, 1, 0, 1, 26);
      ask(q, "tape", 5, 2, 2);
      ask(q, "put", 5, 0, 1);
      for (int week = 1; week < 9; week++) {
        ask(q, "put", 5, 1, week);
        ask(q, "judge", 5);
      }
    }
    return q;
  }

  private static List<Call> ofCopies() {
    List<Call> q = new ArrayList<>();
    for (int d = 0; d < 6; d++) {
      ask(q, "toss", d);
      ask(q, "back", d);
      for (int what = 0; what < 6; what++) ask(q, "count", what);
      for (int c = 0; c < 5; c++) for (int what = 0; what < 7; what++) ask(q, "told", c, what);
      ask(q, "clear", d);
    }
    return q;
  }
}
