import java.util.function.Supplier;

/** What the tests have in common: answers that are due, and SHOWERS made from a String. */
final class Check {
  static final int NONE = RainRead.NONE, UNKNOWN = RainRead.UNKNOWN, OUTSIDE = RainRead.OUTSIDE;
  static final int STATE = RainRead.STATE, FULL = RainRead.FULL;
  static final int NULL = -11, CAST = -12, INDEX = -13, SIZE = -14;
  static final long LOST = RainRead.LOST;
  static final int LEAST = Integer.MIN_VALUE, GREATEST = Integer.MAX_VALUE;
  /** Line l is read at hour l by the one crier; WET 6, 8, 3, 4. */
  static final String SLOW = "s,10,21,32,43,50,61;p10";
  /** As many lines and criers as there may be. */
  static final String MOST = "s,93,93,93,93,93,93;c35;c35;c35";

  /** A call with one number left open. */
  interface Call {
    long of(RainRead x, int v);
  }

  private int wrong;
  private int asked;
  private String sentence = "";
  private int askedOfSentence = 1;

  /** What is due from here on is due by these words of the document: of Terms (0), of a promise (1 .. 33). */
  void says(int promise, String words) {
    holdsToSentence();
    sentence = (promise == 0 ? "Terms" : "Promise " + promise) + ": " + words;
    askedOfSentence = 0;
  }

  private void holdsToSentence() {
    if (askedOfSentence == 0) {
      wrong++;
      System.out.println("nothing is asked of [" + sentence + "]");
    }
  }

  void due(String call, long got, long want) {
    asked++;
    askedOfSentence++;
    if (got != want) {
      wrong++;
      System.out.println(call + " answered " + got + ", due is " + want + " [" + sentence + "]");
    }
  }

  void due(String call, String got, String want) {
    asked++;
    askedOfSentence++;
    if (!got.equals(want)) {
      wrong++;
      System.out.println(call + ":\n  it is  " + got + "\n  due is " + want + "\n  [" + sentence + "]");
    }
  }

  /** A call that names no FAULTS is refused for each of the numbers, and changes nothing, not even fault(). */
  void refuses(String call, Supplier<RainRead> room, long answer, Call ask, int... numbers) {
    refused(call, room, answer, room.get().fault(), ask, numbers);
  }

  /** A call that names FAULTS is refused for each of the numbers, and changes nothing but fault(). */
  void refusesClear(String call, Supplier<RainRead> room, long answer, Call ask, int... numbers) {
    refused(call, room, answer, 0, ask, numbers);
  }

  /** A call comes to a FAULT for each of the numbers, and changes nothing but fault(). */
  void faults(String call, Supplier<RainRead> room, int fault, Call ask, int... numbers) {
    refused(call, room, -10 - fault, fault, ask, numbers);
  }

  void refused(String call, Supplier<RainRead> room, long answer, int fault, Call ask, int... numbers) {
    RainRead x = room.get();
    for (int v : numbers) {
      due(call + " with " + v, ask.of(x, v), answer);
      due("fault() after " + call + " with " + v, x.fault(), fault);
    }
    due("what is left by " + call, Room.told(x), Room.told(room.get()));
  }

  void end(String name) {
    holdsToSentence();
    System.out.println(name + ": " + asked + " answers, " + wrong + " not as due");
    if (wrong != 0 || asked == 0) {
      System.exit(1);
    }
  }

  static void write(RainRead x, int sheet, int lane, String text) {
    x.sheet(sheet, lane, text.length());
    for (int i = 0; i < text.length(); i++) {
      x.put(sheet, i, text.charAt(i));
    }
  }

  static int take(RainRead x, String text) {
    write(x, 0, 0, text);
    return x.shower(0, 0, 0, text.length());
  }

  static RainRead of(String text) {
    RainRead x = new RainRead();
    if (take(x, text) < 1) {
      throw new IllegalStateException("no shower: " + text);
    }
    return x;
  }

  /** Writes pairs of a DAY into SHEET 3 as ints. */
  static void pairs(RainRead x, int... numbers) {
    x.sheet(3, 2, numbers.length);
    for (int i = 0; i < numbers.length; i++) {
      x.put(3, i, numbers[i]);
    }
  }
}
