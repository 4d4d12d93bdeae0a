import java.lang.reflect.Constructor;
import java.lang.reflect.Field;
import java.lang.reflect.Method;
import java.lang.reflect.Modifier;
import java.nio.file.Files;
import java.nio.file.Path;
import java.util.Arrays;
import java.util.Set;
import java.util.TreeSet;
import java.util.regex.Matcher;
import java.util.regex.Pattern;

/** The public face is the document's and no more, and the source keeps to what can be seen of LANGUAGE.md. */
public final class FaceTest {
  private static final Check C = new Check();
  /** What the class uses of the library; LANGUAGE.md allows it (rule 4). */
  private static final Set<String> LIBRARY = Set.of("Arrays.fill", "System.arraycopy", "Math.max", "Integer.bitCount",
      "Long.MIN_VALUE");

  public static void main(String[] args) throws Exception {
    constants(face());
    methods(face());
    nested();
    source();
    library();
    made();
    C.end("FaceTest");
  }

  /** The rows of the document's face: constants, the constructor, methods. */
  private static Set<String> face() throws Exception {
    String doc = Files.readString(Path.of("../shared/DOC.md"));
    int begin = doc.indexOf("public final class RainRead {\n");
    Set<String> rows = new TreeSet<>();
    for (String row : doc.substring(begin, doc.indexOf("\n}", begin)).split("\n")) {
      rows.add(row.trim());
    }
    return rows;
  }

  private static void constants(Set<String> face) throws Exception {
    Set<String> found = new TreeSet<>();
    for (Field f : RainRead.class.getDeclaredFields()) {
      int mods = f.getModifiers();
      holds(f + " is final, if static", Modifier.isFinal(mods) || !Modifier.isStatic(mods));
      if (!Modifier.isPrivate(mods)) {
        holds(f + " is a public constant", Modifier.isPublic(mods) && Modifier.isStatic(mods));
        long value = f.getLong(null);
        found.add(f.getType() + " " + f.getName() + " = " + (value == Long.MIN_VALUE ? "Long.MIN_VALUE" : value));
      }
    }
    Set<String> due = new TreeSet<>();
    for (String row : face) {
      Matcher m = Pattern.compile("public static final (\\w+) (.*);").matcher(row);
      for (String one : m.matches() ? m.group(2).split(", ") : new String[0]) {
        due.add(m.group(1) + " " + one);
      }
    }
    C.due("constants", found.toString(), due.toString());
    C.due("how many constants", found.size(), 6);
  }

  private static void methods(Set<String> face) {
    Set<String> due = new TreeSet<>();
    Set<String> names = new TreeSet<>();
    for (String row : face) {
      Matcher m = Pattern.compile("public (int|long) (\\w+)\\((.*)\\);").matcher(row);
      if (m.matches()) {
        due.add(m.group(1) + " " + m.group(2) + " [" + m.group(3).replaceAll("(\\w+) \\w+", "$1") + "]");
        names.add(m.group(2));
      }
    }
    Set<String> found = new TreeSet<>();
    for (Method m : RainRead.class.getDeclaredMethods()) {
      if (Modifier.isPrivate(m.getModifiers())) {
        holds("private " + m.getName() + " bears no public name", !names.contains(m.getName()));
      } else {
        holds(m + " is public, not static", Modifier.isPublic(m.getModifiers()) && !Modifier.isStatic(m.getModifiers()));
        found.add(m.getReturnType() + " " + m.getName() + " " + Arrays.toString(m.getParameterTypes()));
      }
    }
    C.due("methods", found.toString(), due.toString());
    C.due("how many methods", found.size(), 32);
    Constructor<?>[] made = RainRead.class.getDeclaredConstructors();
    holds("one public constructor", made.length == 1 && Modifier.isPublic(made[0].getModifiers()));
    holds("it takes nothing", made.length == 1 && made[0].getParameterCount() == 0 && face.contains("public RainRead();"));
    holds("public and final", Modifier.isPublic(RainRead.class.getModifiers()) && Modifier.isFinal(RainRead.class.getModifiers()));
  }

  private static void nested() {
    sizes(RainRead.class);
    holds("at most eleven classes inside", RainRead.class.getDeclaredClasses().length <= 11);
    for (Class<?> inside : RainRead.class.getDeclaredClasses()) {
      holds(inside + " is static", Modifier.isStatic(inside.getModifiers()));
      sizes(inside);
      holds(inside + " is not open to others", !Modifier.isPublic(inside.getModifiers()) && !Modifier.isProtected(inside.getModifiers()));
    }
  }

  private static void sizes(Class<?> one) {
    long fields = Arrays.stream(one.getDeclaredFields()).filter(f -> !Modifier.isStatic(f.getModifiers())).count();
    holds(one + " has at most twenty fields", fields <= 20);
    for (Method m : one.getDeclaredMethods()) {
      holds(m + " takes at most seven", m.getParameterCount() <= 7);
    }
  }

  private static String code() throws Exception {
    String all = Files.readString(Path.of("src/main/java/RainRead.java"));
    return all.replaceAll("(?s)/\\*.*?\\*/", " ").replaceAll("//[^\n]*", " ");
  }

  private static void library() throws Exception {
    Matcher m = Pattern.compile("\\b(?<!\\.)([A-Z][a-z]\\w*\\.\\w+)").matcher(code());
    while (m.find()) {
      holds("the library's " + m.group(1), LIBRARY.contains(m.group(1)));
    }
  }

  /** All calls of a run share one room: rows are made by constructors alone, so what a run makes does not grow. */
  private static void made() throws Exception {
    for (String row : code().split("\n")) {
      boolean byConstructor = row.matches(" +(private )?final \\S+ \\w+ = new .*;") || row.equals("      sheets[k] = new Sheet();");
      holds("made by a constructor: " + row, !row.contains("new ") || byConstructor);
    }
  }

  private static void source() throws Exception {
    String all = Files.readString(Path.of("src/main/java/RainRead.java"));
    String code = code();
    Matcher m = Pattern.compile("\\b(throw|throws|try|catch|synchronized|assert|package|hashCode|toString)\\b|->|::|Exact\\b").matcher(code);
    holds("no word that the rules leave out, but found " + (m.find() ? m.group() : ""), m.reset().results().count() == 0);
    Matcher imports = Pattern.compile("import ([^;]*);").matcher(code);
    while (imports.find()) {
      holds("import " + imports.group(1), imports.group(1).equals("java.util.Arrays"));
    }
    holds("characters of ASCII", all.chars().allMatch(c -> c < 128));
    int longest = 0;
    int begin = -1;
    String[] rows = all.split("\n");
    for (int i = 0; i < rows.length; i++) {
      if (rows[i].matches("( {2}| {4})\\S.*\\) \\{")) {
        begin = i;
      } else if (begin >= 0 && rows[i].matches("( {2}| {4})\\}")) {
        longest = Math.max(longest, i - begin + 1);
        begin = -1;
      }
    }
    holds("methods of at most sixty rows, but " + longest, longest <= 60 && longest > 5);
  }

  private static void holds(String what, boolean so) {
    C.due(what, so ? 1 : 0, 1);
  }
}
