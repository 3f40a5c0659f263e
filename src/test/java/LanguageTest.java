import java.io.IOException;
import java.lang.reflect.Constructor;
import java.lang.reflect.Field;
import java.lang.reflect.Method;
import java.lang.reflect.Modifier;
import java.nio.file.Files;
import java.nio.file.Path;
import java.util.ArrayList;
import java.util.List;
import java.util.Set;
import java.util.TreeSet;
import java.util.regex.Matcher;
import java.util.regex.Pattern;

/** The face is the document's, and the file keeps to what LANGUAGE.md leaves, as far as a plain look can tell. */
public final class LanguageTest {
  private static final Path SOURCE = Path.of("src/main/java/ToBeContinued.java");
  private static final Path DOCUMENT = Path.of("../shared/DOC.md");
  private static int wrong = 0;

  private static void want(boolean so, String otherwise) {
    if (!so) {
      wrong++;
      System.out.println(otherwise);
    }
  }

  public static void main(String[] args) throws IOException {
    face();
    classes();
    source();
    System.out.println(wrong == 0 ? "the face and the language are kept" : wrong + " breaks of the face or the language");
    if (wrong != 0) System.exit(1);
  }

  private static void face() throws IOException {
    String text = Files.readString(DOCUMENT);
    text = text.substring(text.indexOf("```java") + 7);
    text = text.substring(0, text.indexOf("```"));
    Set<String> due = new TreeSet<>();
    Matcher m = Pattern.compile("public (int|long) (\\w+)\\(([^)]*)\\)").matcher(text);
    while (m.find()) due.add(m.group(1) + " " + m.group(2) + " " + m.group(3).replaceAll("(int|long) \\w+", "$1"));
    Set<String> got = new TreeSet<>();
    Set<String> names = new TreeSet<>();
    for (Method method : ToBeContinued.class.getDeclaredMethods()) {
      if (Modifier.isPrivate(method.getModifiers())) continue;
      List<String> types = new ArrayList<>();
      for (Class<?> type : method.getParameterTypes()) types.add(type.getName());
      got.add(method.getReturnType().getName() + " " + method.getName() + " " + String.join(", ", types));
      names.add(method.getName());
      want(method.getModifiers() == Modifier.PUBLIC, method + " is not just public");
    }
    want(due.size() == 45 && got.equals(due), "the face is " + got + ", due is " + due);
    for (Method method : ToBeContinued.class.getDeclaredMethods())
      want(!Modifier.isPrivate(method.getModifiers()) || !names.contains(method.getName()), method + " bears a public name");
    constants(text);
    Constructor<?>[] made = ToBeContinued.class.getDeclaredConstructors();
    want(made.length == 1 && made[0].getParameterCount() == 0 && Modifier.isPublic(made[0].getModifiers()), "constructors");
    want(ToBeContinued.class.getModifiers() == (Modifier.PUBLIC | Modifier.FINAL), "the class is not public and final");
  }

  /** The constants that are visible, with their values, are those of the document. */
  private static void constants(String text) {
    Set<String> due = new TreeSet<>();
    Matcher m = Pattern.compile("([A-Z]+) = (-?\\d+)").matcher(text);
    while (m.find()) due.add(m.group(1) + " = " + m.group(2));
    Set<String> got = new TreeSet<>();
    for (Field field : ToBeContinued.class.getDeclaredFields()) {
      if (Modifier.isPrivate(field.getModifiers())) continue;
      boolean well = field.getModifiers() == (Modifier.PUBLIC | Modifier.STATIC | Modifier.FINAL) && field.getType() == int.class;
      want(well, field + " is no constant of the face");
      try {
        if (well) got.add(field.getName() + " = " + field.getInt(null));
      } catch (IllegalAccessException never) {
        want(false, never.toString());
      }
    }
    want(due.size() == 10 && got.equals(due), "the constants are " + got + ", due is " + due);
  }

  private static void classes() {
    Class<?>[] inside = ToBeContinued.class.getDeclaredClasses();
    want(inside.length <= 12, "too many classes");
    for (Class<?> one : inside) {
      want(Modifier.isStatic(one.getModifiers()), one + " is not static");
      want(!Modifier.isPublic(one.getModifiers()) && !Modifier.isProtected(one.getModifiers()), one + " is visible");
      int fields = 0;
      for (Field field : one.getDeclaredFields()) {
        if (Modifier.isStatic(field.getModifiers())) want(Modifier.isFinal(field.getModifiers()), field + " is not final");
        else fields++;
      }
      want(fields <= 20, one + " has " + fields + " fields");
      for (Method method : one.getDeclaredMethods()) want(method.getParameterCount() <= 7, method + " takes too many");
    }
  }

  private static void source() throws IOException {
    String text = Files.readString(SOURCE);
    String code = text.replaceAll("(?s)/\\*.*?\\*/", "").replaceAll("//[^\n]*", "");
    String[] never = {"->", "::", "finally", "synchronized", "assert ", "hashCode", "Exact\\(", "static \\{", "catch", "@",
        "System\\.(?!arraycopy)", "Arrays\\.(?!fill\\()", "Math\\.(?!max|min|abs)", "Integer\\.(?!bitCount)", "Double",
        "[/%]=? [a-z(]", "package ", "\\bvar\\b", "String\\.format", "Random", "\\bThread\\b"};
    for (String one : never) want(!Pattern.compile(one).matcher(code).find(), "the file has " + one);
    Matcher imports = Pattern.compile("import ([^;]+);").matcher(code);
    while (imports.find()) want(imports.group(1).equals("java.util.Arrays"), "import of " + imports.group(1));
    for (int i = 0; i < text.length(); i++)
      want(text.charAt(i) == '\n' || text.charAt(i) >= 32 && text.charAt(i) < 127, "an odd sign at " + i);
    int begun = -1;
    String[] lines = text.split("\n", -1);
    for (int i = 0; i < lines.length; i++) {
      if (lines[i].matches("( {4}| {8})(public|private|static|final|int|long|boolean|void|[A-Z]).*\\) .*\\{") && !lines[i].contains(" class ")) begun = i;
      if (begun >= 0 && lines[i].matches("( {4}| {8})\\}")) {
        want(i - begun <= 60, "a method of " + (i - begun) + " lines at " + (begun + 1));
        begun = -1;
      }
    }
  }
}
