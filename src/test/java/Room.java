/** Objects in which there is something of everything, and all that can be told of one by its answers. */
final class Room {
  /** Line 0 hangs, 1 and 2 fall by crier 0 at hours 0 and 1, 3 is mud, 4 falls by crier 2 at hour 0. */
  static final String TEXT = "s,50,31,72,40,93;p11;m13;c23";
  private static final int[] PAIRS = {9, 0, 1, 6, 5, 9};
  private static final int[] INTS = {70000, -1, 3};

  private Room() {
  }

  /** A call by its name, so that a room can be made of RainRead and of the Model alike. */
  interface Calls {
    long call(String name, int... args);
  }

  /** SHEETS 0 (bytes, the TEXT), 1 (shorts, three pairs), 2 (ints), 3 (nothing); no SHOWER; fault() is 3. */
  static RainRead dry() {
    return made(0);
  }

  /** As dry, and the SHOWER, three coughs (4's rain is turned to 0, 2's is lost), two READINGS, TRACE 1; fault() is 2. */
  static RainRead wet() {
    return made(1);
  }

  /** As wet, with as many READINGS as there may be. */
  static RainRead full() {
    return made(2);
  }
  private static RainRead made(int room) {
    RainRead x = new RainRead();
    make(room, (name, args) -> Both.answer(x, name, args));
    return x;
  }

  /** 0 dry, 1 wet, 2 full. */
  static void make(int room, Calls x) {
    fill(x, 0, 0, TEXT.chars().toArray());
    fill(x, 1, 1, PAIRS);
    fill(x, 2, 2, INTS);
    x.call("put", 2, 3, 0);
    if (room == 0) {
      return;
    }
    x.call("shower", 0, 0, 0, TEXT.length());
    x.call("cough", 3, 0);
    x.call("cough", 2, 1);
    x.call("cough", 3, 1);
    x.call("reading", 0, 17);
    x.call("reading", 1, 3);
    x.call("tell", 0);
    x.call("as", 0, 2);
    for (int k = 2; room == 2 && k < 8; k++) {
      x.call("reading", k % 4, k);
    }
  }

  private static void fill(Calls x, int sheet, int lane, int... numbers) {
    x.call("sheet", sheet, lane, numbers.length);
    for (int i = 0; i < numbers.length; i++) {
      x.call("put", sheet, i, numbers[i]);
    }
  }

  /** All but fault(). It uses the object up: READINGS are taken back, coughs are turned, to see what they were. */
  static String told(RainRead x) {
    StringBuilder s = new StringBuilder("trace ").append(x.trace()).append(" many");
    for (int what = 0; what < 5; what++) {
      s.append(' ').append(x.many(what));
    }
    tellBetter(x, s);
    for (int k = 0; k < 6 * 5; k++) {
      s.append(k % 5 == 0 ? " line " : " ").append(x.ofLine(k / 5, k % 5));
    }
    for (int k = 0; k < 3 * 5; k++) {
      s.append(k % 5 == 0 ? " crier " : " ").append(x.ofCrier(k / 5, k % 5));
    }
    for (int k = 0; k < 4; k++) {
      tellSheet(x, k, s);
    }
    tellReadings(x, s);
    s.append(" coughs");
    for (int k = 0; k < 24; k++) {
      s.append(' ').append(x.cough(k / 6, k % 6));
    }
    return s.toString();
  }

  private static void tellBetter(RainRead x, StringBuilder s) {
    s.append(" whole ").append(x.whole(-1)).append(" saved ").append(x.saved(15, 3)).append(" most ").append(x.most(-1));
    s.append(" strayed ").append(x.strayed(1, 1)).append(" misprint ").append(x.misprint(1, 9, 0));
    s.append(" rests ").append(x.rests(3, 0, 0)).append(" odds ").append(x.odds(0, 1, 0));
  }

  private static void tellSheet(RainRead x, int k, StringBuilder s) {
    s.append(" sheet");
    for (int lane = 0; lane < 3; lane++) {
      long first = x.cell(k, 0, lane);
      int fault = x.fault();
      s.append(" lane ").append(lane).append(" fault ").append(fault);
      for (int i = 0; fault == 0 && first != RainRead.LOST && i < 61; i++) {
        long cell = x.cell(k, i, lane);
        fault = x.fault();
        s.append(fault == 0 ? " " + cell : " end");
      }
    }
  }

  private static void tellReadings(RainRead x, StringBuilder s) {
    s.append(" readings");
    for (int left = x.many(4); left > 0 && left <= 8; left = x.back(1)) {
      for (int c = 0; c < 3; c++) {
        s.append(' ').append(x.kinds(c)).append(' ').append(x.paces(c)).append(' ').append(x.starts(c));
      }
    }
  }
}
