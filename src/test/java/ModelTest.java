import java.lang.reflect.Method;
import java.util.ArrayList;
import java.util.List;
import java.util.Random;

/** All promises: long runs of drawn calls (always the same ones), each answer held against the Model's. */
public final class ModelTest {
  private static final Check C = new Check();
  private static final int RUNS = 400, CALLS = 512;
  private static final int[] EDGES = {Integer.MIN_VALUE, Integer.MIN_VALUE + 1, -100, -10, -9, -3, -2, -1, 0, 1, 2, 3, 4,
    5, 6, 7, 8, 9, 10, 13, 14, 15, 16, 20, 21, 59, 60, 61, 99, 100, 120, 121, 127, 128, 255, 256, 32767, 32768, 65535,
    65536, Integer.MAX_VALUE - 1, Integer.MAX_VALUE};

  private final Random random;
  private final Both both = new Both(C);
  private int calls;

  private ModelTest(int seed) {
    random = new Random(seed);
  }

  public static void main(String[] args) {
    for (int seed = 0; seed < RUNS; seed++) {
      new ModelTest(seed).run(methods());
    }
    C.end("ModelTest");
  }

  private static List<Method> methods() {
    List<Method> all = new ArrayList<>();
    for (Method m : RainRead.class.getDeclaredMethods()) {
      if (java.lang.reflect.Modifier.isPublic(m.getModifiers())) {
        all.add(m);
      }
    }
    // Reflection tells methods in no order: sorted, so that a seed always draws the same run.
    all.sort((a, b) -> a.getName().compareTo(b.getName()));
    return all;
  }

  private void run(List<Method> methods) {
    if (random.nextInt(10) > 0) {
      tellShower();
    }
    while (calls < CALLS && !both.differed()) {
      int draw = random.nextInt(120);
      if (draw == 0) {
        tellShower();
      } else if (draw < 6) {
        tellDay();
      } else {
        Method m = methods.get(random.nextInt(methods.size()));
        call(m.getName(), drawn(m));
      }
    }
  }

  /** A TEXT, mostly a right one, written cell by cell. */
  private void tellShower() {
    StringBuilder text = new StringBuilder("s");
    int lines = 1 + random.nextInt(6);
    for (int l = 0; l < lines; l++) {
      text.append(',').append(random.nextInt(10)).append(random.nextInt(4));
    }
    int criers = 1 + random.nextInt(3);
    for (int c = 0; c < criers; c++) {
      text.append(';').append("pmc".charAt(random.nextInt(3))).append(1 + random.nextInt(3)).append(random.nextInt(lines));
    }
    if (random.nextInt(3) == 0) {
      spoil(text);
    }
    int sheet = random.nextInt(4);
    int lane = random.nextInt(3);
    int from = random.nextInt(3);
    call("sheet", sheet, lane, Math.min(60, from + text.length() + random.nextInt(2)));
    for (int i = 0; i < text.length(); i++) {
      call("put", sheet, from + i, text.charAt(i));
    }
    call("shower", sheet, lane, from, text.length());
  }

  private void spoil(StringBuilder text) {
    int place = random.nextInt(text.length());
    switch (random.nextInt(4)) {
      case 0: text.setLength(place); break;
      case 1: text.setCharAt(place, ",;spmc0123456789:/x".charAt(random.nextInt(19))); break;
      case 2: text.insert(place, ",;spmc0123".charAt(random.nextInt(10))); break;
      default: text.append(";p10").append(random.nextInt(2) == 0 ? "" : ","); break;
    }
  }

  private void tellDay() {
    int pairs = random.nextInt(7);
    int sheet = random.nextInt(4);
    int lane = random.nextInt(3);
    call("sheet", sheet, lane, 2 * pairs);
    for (int p = 0; p < pairs; p++) {
      int second = random.nextInt(25) == 0 ? random.nextInt(20) - 3 : random.nextInt(13);
      int first = random.nextInt(25) == 0 ? random.nextInt(14) - 2 : random.nextInt(second < 6 ? 10 : second < 9 ? 4 : 6);
      call("put", sheet, 2 * p, first);
      call("put", sheet, 2 * p + 1, second);
    }
    for (int what = 0; what < 14; what++) {
      call("day", sheet, lane, 0, pairs, what);
    }
  }

  private int[] drawn(Method m) {
    int[] args = new int[m.getParameterCount()];
    for (int k = 0; k < args.length; k++) {
      int draw = random.nextInt(12);
      args[k] = draw == 0 ? EDGES[random.nextInt(EDGES.length)] : draw < 3 ? random.nextInt(64) : random.nextInt(5);
    }
    if (m.getName().equals("reading") && random.nextInt(2) == 0) {
      args[0] = random.nextInt(4);
      args[1] = Math.max(0, both.real.wet(args[0]));
      calls++;
    }
    return args;
  }

  private void call(String name, int... args) {
    if (calls < CALLS && !both.differed()) {
      calls++;
      both.call(name, args);
    }
  }
}
