import java.io.IOException;
import java.lang.reflect.Field;
import java.lang.reflect.Method;
import java.lang.reflect.Modifier;
import java.nio.file.Files;
import java.nio.file.Path;
import java.util.HashSet;
import java.util.List;
import java.util.Set;
import java.util.regex.Matcher;
import java.util.regex.Pattern;
import java.util.stream.Stream;

/** README.md shows every call with an answer, tells the constants as they are, and names every test of the project. */
public final class ReadmeTest {
  private static final Check C = new Check();

  public static void main(String[] args) throws IOException, ReflectiveOperationException {
    answersAreShown();
    callsAreShown();
    constants();
    tests();
    C.end("ReadmeTest");
  }

  /** A row that begins with a call and is not of the form that Readme takes would be run, but not tested. */
  private static void answersAreShown() throws IOException {
    for (String row : Readme.shown()) {
      if (row.startsWith("rain.")) {
        C.due("answer of: " + row, Readme.called(row).isEmpty() ? 0 : 1, 1);
      }
    }
  }

  private static void callsAreShown() throws IOException {
    Set<String> shown = new HashSet<>();
    for (String row : Readme.shown()) {
      shown.add(Readme.called(row));
    }
    for (Method m : RainRead.class.getDeclaredMethods()) {
      if (Modifier.isPublic(m.getModifiers())) {
        C.due(m.getName() + " is shown", shown.contains(m.getName()) ? 1 : 0, 1);
      }
    }
  }

  private static void constants() throws IOException, ReflectiveOperationException {
    Matcher told = Pattern.compile("(?m)^\\| `([A-Z]+)` \\| (-\\d+) \\|").matcher(Readme.text());
    Set<String> found = new HashSet<>();
    while (told.find()) {
      found.add(told.group(1));
      C.due(told.group(1), RainRead.class.getField(told.group(1)).getLong(null), Long.parseLong(told.group(2)));
    }
    for (Field f : RainRead.class.getFields()) {
      C.due(f.getName() + " is told", found.contains(f.getName()) ? 1 : 0, 1);
    }
  }

  private static void tests() throws IOException {
    List<Path> files;
    try (Stream<Path> all = Files.list(Path.of("src/test/java"))) {
      files = all.toList();
    }
    for (Path file : files) {
      String name = file.getFileName().toString().replace(".java", "");
      boolean named = Pattern.compile("(?<!\\w)" + name + "(?!\\w)").matcher(Readme.text()).find();
      C.due(name + " is named", named ? 1 : 0, 1);
    }
  }
}
