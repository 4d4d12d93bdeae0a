import java.lang.reflect.Method;
import java.util.ArrayList;
import java.util.Arrays;
import java.util.HashMap;
import java.util.List;
import java.util.Map;

/** RainRead and the Model, of which each is asked the same calls. */
final class Both {
  private static final Map<String, Method> METHODS = new HashMap<>();

  final RainRead real = new RainRead();
  private final Model model = new Model();
  private final Check check;
  private final List<String> told = new ArrayList<>();
  private boolean differed;

  Both(Check check) {
    this.check = check;
  }

  boolean differed() {
    return differed;
  }

  /** Asks both: what is due. */
  long call(String name, int... args) {
    told.add(name + Arrays.toString(args));
    long got = answer(real, name, args);
    long due = answer(model, name, args);
    check.due(told.get(told.size() - 1), got, due);
    if (got != due && !differed) {
      differed = true;
      System.out.println("the run: " + told);
    }
    return due;
  }

  static long answer(Object of, String name, int... args) {
    Object[] values = new Object[args.length];
    for (int k = 0; k < args.length; k++) {
      values[k] = args[k];
    }
    try {
      return ((Number) method(of, name, args.length).invoke(of, values)).longValue();
    } catch (ReflectiveOperationException e) {
      throw new IllegalStateException(of.getClass() + "." + name + Arrays.toString(args) + " threw", e);
    }
  }

  private static Method method(Object of, String name, int count) throws ReflectiveOperationException {
    String key = of.getClass().getName() + "." + name;
    Method found = METHODS.get(key);
    if (found == null) {
      Class<?>[] types = new Class<?>[count];
      Arrays.fill(types, int.class);
      found = of.getClass().getDeclaredMethod(name, types);
      METHODS.put(key, found);
    }
    return found;
  }
}
