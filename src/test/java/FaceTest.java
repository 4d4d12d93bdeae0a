import java.lang.reflect.Constructor;
import java.lang.reflect.Field;
import java.lang.reflect.Method;
import java.lang.reflect.Modifier;
import java.nio.file.Files;
import java.nio.file.Path;
import java.util.Arrays;
import java.util.Set;
import java.util.TreeSet;
import java.util.regex.Matcher;
import java.util.regex.Pattern;

/** The public face is the document's and no more, and the source keeps to what can be seen of LANGUAGE.md. */
public final class FaceTest {
  private static final Check C = new Check();
  private static final String FACE = "int shower 4,int ofLine 2,int ofCrier 2,int print 2,int begin 2,int cough 2,"
      + "int comes 2,int wet 1,int day 5,int whole 1,int most 1,int strayed 2,int saved 2,int misprint 3,int rests 3,"
      + "int reading 2,int back 1,int kinds 1,int paces 1,int starts 1,long odds 3,int sheet 3,int lose 1,int put 3,"
      + "long cell 3,int copy 5,int tell 1,int bribe 1,int as 2,int trace 0,int fault 0,int many 1";

  public static void main(String[] args) throws Exception {
    constants();
    methods();
    fields();
    nested();
    source();
    C.end("FaceTest");
  }

  private static void constants() {
    C.due("UNKNOWN", RainRead.UNKNOWN, -1);
    C.due("OUTSIDE", RainRead.OUTSIDE, -2);
    C.due("STATE", RainRead.STATE, -3);
    C.due("FULL", RainRead.FULL, -4);
    C.due("NONE", RainRead.NONE, -9);
    C.due("LOST", RainRead.LOST, Long.MIN_VALUE);
  }

  private static void methods() {
    Set<String> due = new TreeSet<>(Arrays.asList(FACE.split(",")));
    Set<String> names = new TreeSet<>();
    for (String one : due) {
      names.add(one.split(" ")[1]);
    }
    Set<String> found = new TreeSet<>();
    for (Method m : RainRead.class.getDeclaredMethods()) {
      if (Modifier.isPrivate(m.getModifiers())) {
        holds("private " + m.getName() + " bears no public name", !names.contains(m.getName()));
      } else {
        holds(m + " is public, not static", Modifier.isPublic(m.getModifiers()) && !Modifier.isStatic(m.getModifiers()));
        holds(m + " takes ints", Arrays.stream(m.getParameterTypes()).allMatch(t -> t == int.class));
        found.add(m.getReturnType() + " " + m.getName() + " " + m.getParameterCount());
      }
    }
    holds("the face is " + due + ", found " + found, found.equals(due));
    Constructor<?>[] made = RainRead.class.getDeclaredConstructors();
    holds("one public constructor", made.length == 1 && Modifier.isPublic(made[0].getModifiers()));
    holds("public and final", Modifier.isPublic(RainRead.class.getModifiers()) && Modifier.isFinal(RainRead.class.getModifiers()));
  }

  private static void fields() {
    Set<String> seen = new TreeSet<>();
    for (Field f : RainRead.class.getDeclaredFields()) {
      int mods = f.getModifiers();
      holds(f + " is final, if static", Modifier.isFinal(mods) || !Modifier.isStatic(mods));
      if (!Modifier.isPrivate(mods)) {
        seen.add(f.getType() + " " + f.getName());
      }
    }
    holds("constants: " + seen, seen.equals(new TreeSet<>(Arrays.asList("int UNKNOWN", "int OUTSIDE", "int STATE",
        "int FULL", "int NONE", "long LOST"))));
  }

  private static void nested() {
    holds("at most eleven classes inside", RainRead.class.getDeclaredClasses().length <= 11);
    for (Class<?> inside : RainRead.class.getDeclaredClasses()) {
      holds(inside + " is static", Modifier.isStatic(inside.getModifiers()));
      holds(inside + " is not open to others", !Modifier.isPublic(inside.getModifiers()) && !Modifier.isProtected(inside.getModifiers()));
    }
  }

  private static void source() throws Exception {
    String all = Files.readString(Path.of("src/main/java/RainRead.java"));
    String code = all.replaceAll("(?s)/\\*.*?\\*/", " ").replaceAll("//[^\n]*", " ");
    Matcher m = Pattern.compile("\\b(throw|throws|try|catch|synchronized|assert|package|hashCode|toString)\\b|->|::|Exact\\b").matcher(code);
    holds("no word that the rules leave out, but found " + (m.find() ? m.group() : ""), m.reset().results().count() == 0);
    Matcher imports = Pattern.compile("import ([^;]*);").matcher(code);
    while (imports.find()) {
      holds("import " + imports.group(1), imports.group(1).equals("java.util.Arrays"));
    }
    holds("characters of ASCII", all.chars().allMatch(c -> c < 128));
    int longest = 0;
    int begin = -1;
    String[] rows = all.split("\n");
    for (int i = 0; i < rows.length; i++) {
      if (rows[i].matches("( {2}| {4})\\S.*\\) \\{")) {
        begin = i;
      } else if (begin >= 0 && rows[i].matches("( {2}| {4})\\}")) {
        longest = Math.max(longest, i - begin + 1);
        begin = -1;
      }
    }
    holds("methods of at most sixty rows, but " + longest, longest <= 60 && longest > 5);
  }

  private static void holds(String what, boolean so) {
    C.due(what, so ? 1 : 0, 1);
  }
}
