/** What the tests have in common: answers that are due, and SHOWERS made from a String. */
final class Check {
  static final int NONE = RainRead.NONE, UNKNOWN = RainRead.UNKNOWN, OUTSIDE = RainRead.OUTSIDE;
  static final int STATE = RainRead.STATE, FULL = RainRead.FULL;
  static final int NULL = -11, CAST = -12, INDEX = -13, SIZE = -14;
  static final int LEAST = Integer.MIN_VALUE, GREATEST = Integer.MAX_VALUE;
  /** Line l is read at hour l by the one crier; WET 6, 8, 3, 4. */
  static final String SLOW = "s,10,21,32,43,50,61;p10";

  private int wrong;
  private int asked;

  void due(String call, long got, long want) {
    asked++;
    if (got != want) {
      wrong++;
      System.out.println(call + " answered " + got + ", due is " + want);
    }
  }

  void end(String name) {
    System.out.println(name + ": " + asked + " answers, " + wrong + " not as due");
    if (wrong != 0 || asked == 0) {
      System.exit(1);
    }
  }

  static void write(RainRead x, int sheet, int lane, String text) {
    x.sheet(sheet, lane, text.length());
    for (int i = 0; i < text.length(); i++) {
      x.put(sheet, i, text.charAt(i));
    }
  }

  static int take(RainRead x, String text) {
    write(x, 0, 0, text);
    return x.shower(0, 0, 0, text.length());
  }

  static RainRead of(String text) {
    RainRead x = new RainRead();
    if (take(x, text) < 1) {
      throw new IllegalStateException("no shower: " + text);
    }
    return x;
  }

  /** Writes pairs of a DAY into SHEET 3 as ints. */
  static void pairs(RainRead x, int... numbers) {
    x.sheet(3, 2, numbers.length);
    for (int i = 0; i < numbers.length; i++) {
      x.put(3, i, numbers[i]);
    }
  }
}
