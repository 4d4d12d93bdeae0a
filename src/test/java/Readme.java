import java.io.IOException;
import java.nio.file.Files;
import java.nio.file.Path;
import java.util.ArrayList;
import java.util.List;
import java.util.regex.Matcher;
import java.util.regex.Pattern;

/**
 * What README.md shows: the rows of its Java blocks, as one program. main writes that program as a test, in which each
 * call is held against the answer behind it; all other rows stand in it as README.md has them.
 */
final class Readme {
  /** A call at the beginning of a row, with the answer that is shown for it. */
  private static final Pattern CALL = Pattern.compile("(rain\\.(\\w+)\\([^;]*\\)); +// (-?\\d+|[A-Z]+)(: .*)?");

  private Readme() {
  }

  public static void main(String[] args) throws IOException {
    Files.writeString(Path.of(args[0]), program(args[1]));
  }

  static String text() throws IOException {
    return Files.readString(Path.of("README.md"));
  }

  /** All rows between a row that begins a Java block and the one that ends it. */
  static List<String> shown() throws IOException {
    List<String> found = new ArrayList<>();
    boolean within = false;
    for (String row : text().split("\n")) {
      if (row.startsWith("```")) {
        within = row.equals("```java");
      } else if (within) {
        found.add(row);
      }
    }
    return found;
  }

  /** The name of the call that a row shows with its answer; empty, if it shows none. */
  static String called(String row) {
    Matcher call = CALL.matcher(row);
    return call.matches() ? call.group(2) : "";
  }

  private static String program(String name) throws IOException {
    StringBuilder all = new StringBuilder("public final class " + name + " {\n  private static int wrong, asked;\n");
    all.append("  private static void due(String call, long got, long want) {\n    asked++;\n    if (got != want) {\n");
    all.append("      wrong++;\n      System.out.println(call + \" answered \" + got + \", README.md says \" + want);\n");
    all.append("    }\n  }\n\n  public static void main(String[] args) {\n");
    for (String row : shown()) {
      Matcher call = CALL.matcher(row);
      all.append("    ").append(call.matches() ? due(call) : row).append('\n');
    }
    all.append("    System.out.println(\"README.md: \" + asked + \" answers, \" + wrong + \" not as due\");\n");
    return all.append("    System.exit(wrong == 0 && asked > 0 ? 0 : 1);\n  }\n}\n").toString();
  }

  private static String due(Matcher call) {
    String answer = call.group(3);
    boolean isName = Character.isLetter(answer.charAt(0));
    return "due(\"" + call.group(1) + "\", " + call.group(1) + ", " + (isName ? "RainRead." + answer : answer + "L") + ");";
  }
}
