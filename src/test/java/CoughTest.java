/** Promises 7 to 10: cough, comes, wet, day. */
public final class CoughTest {
  private static final Check C = new Check();

  public static void main(String[] args) {
    coughs();
    refused();
    day();
    dayWrong();
    dayRefused();
    C.end("CoughTest");
  }

  private static void coughs() {
    RainRead x = Check.of(Check.SLOW);
    wets("dry throats", x, 6, 8, 3, 4);
    C.due("comes 0 0", x.comes(0, 0), 1);
    C.due("comes 0 4", x.comes(0, 4), 5);
    C.due("comes 1 4", x.comes(1, 4), 0);
    C.due("comes 1 5", x.comes(1, 5), 6);
    C.due("cough", x.cough(0, 4), 1);
    wets("turned to the next", x, 1, 13, 3, 4);
    C.due("comes 0 4", x.comes(0, 4), 0);
    C.due("comes 1 4", x.comes(1, 4), 5);
    C.due("cough", x.cough(3, 3), 1);
    wets("the next of 3 is 0", x, 5, 13, 3, 0);
    C.due("cough", x.cough(0, 3), 1);
    wets("lost", x, 1, 13, 3, 0);
    C.due("coughs", x.many(2), 3);
    C.due("wet of all", x.many(3), 17);
    C.due("still falls", x.ofLine(3, 4), 4);
    C.due("no more", x.cough(3, 3), 0);
    wets("not lost", x, 1, 13, 3, 4);
    C.due("coughs", x.many(2), 2);
  }

  private static void wets(String when, RainRead x, int... due) {
    for (int f = 0; f < due.length; f++) {
      C.due(when + ": wet " + f, x.wet(f), due[f]);
    }
  }

  private static void refused() {
    RainRead none = new RainRead();
    C.due("cough field", none.cough(4, 6), Check.UNKNOWN);
    C.due("cough hour", none.cough(0, 6), Check.OUTSIDE);
    C.due("cough state", none.cough(0, 5), Check.STATE);
    C.due("comes field", none.comes(-1, 6), Check.UNKNOWN);
    C.due("comes hour", none.comes(0, -1), Check.OUTSIDE);
    C.due("comes state", none.comes(3, 0), Check.STATE);
    C.due("wet field", none.wet(4), Check.UNKNOWN);
    C.due("wet field", none.wet(-1), Check.UNKNOWN);
    C.due("wet state", none.wet(3), Check.STATE);
    RainRead x = Check.of(Check.SLOW);
    C.due("cough field", x.cough(-1, 0), Check.UNKNOWN);
    C.due("cough hour", x.cough(3, -1), Check.OUTSIDE);
    C.due("comes field", x.comes(4, 0), Check.UNKNOWN);
    C.due("comes hour", x.comes(3, 6), Check.OUTSIDE);
    C.due("nobody", x.many(2), 0);
  }

  private static void day() {
    RainRead x = Check.of("s,50,31;p10;m10");
    x.cough(0, 0);
    Check.pairs(x, 1, 7, 0, 9, 9, 0, 0, 9, 0, 10, 2, 1, 0, 6);
    int[][] due = {
      {0, 0, 3, 0, 0, 0, 0, 0},
      {7, 0, 0, 0, 0, 7, 0, 0},
      {7, 0, 0, 0, 5, 2, 0, 0},
      {11, 0, 0, 0, 9, 2, 0, 0},
      {11, 0, 0, 0, 0, 11, 0, 0},
      {2, 0, 0, 9, 0, 0, 2, 0},
      {1, 0, 0, 9, 0, 0, 1, 0},
    };
    int[] asked = {0, 2, 3, 4, 10, 11, 12, 13};
    for (int n = 0; n < due.length; n++) {
      C.due("day of " + n + ", no wrong", x.day(3, 2, 0, n, 1), Check.NONE);
      for (int k = 0; k < asked.length; k++) {
        C.due("day of " + n + ", what " + asked[k], x.day(3, 2, 0, n, asked[k]), due[n][k]);
      }
    }
    C.due("from 10 on: drops of line 1", x.day(3, 2, 10, 2, 0), 0);
    C.due("from 10 on: mud", x.day(3, 2, 10, 2, 3), 3);
    C.due("nothing is changed", x.ofLine(0, 0) * 10 + x.ofLine(1, 0), 53);
    C.due("nothing is changed", x.ofCrier(1, 2), 0);
    C.due("nothing is changed", x.many(2), 1);
    Check.pairs(x, 1, 6, 1, 7);
    C.due("both begin at 1: hangs", x.day(3, 2, 0, 2, 2), 1);
    C.due("both begin at 1: mud", x.day(3, 2, 0, 2, 3), 2);
    Check.pairs(x, 1, 6);
    C.due("at the end, no pairs", x.day(3, 2, 2, 0, 3), 3);
  }

  private static void dayWrong() {
    RainRead x = Check.of("s,50,31;p10;m10");
    Check.pairs(x, 9, 0, 1, 6, 9, 2, 5, 8, 2, 7, 0, 8, 1, 13);
    C.due("no line 2", x.day(3, 2, 0, 3, 1), 2);
    C.due("no line 2", x.day(3, 2, 0, 6, 0), -102);
    for (int what : new int[] {0, 2, 3, 4, 10, 11, 12, 13}) {
      C.due("no line 2, what " + what, x.day(3, 2, 0, 3, what), -102);
    }
    C.due("no crier 2", x.day(3, 2, 6, 1, 1), 0);
    C.due("no start 2", x.day(3, 2, 8, 1, 1), 0);
    C.due("no crier 2, with a start", x.day(3, 2, 10, 1, 0), -100);
    C.due("a refusal goes first", x.day(3, 2, 0, 7, 1), Check.OUTSIDE);
    C.due("a refusal goes first", x.day(3, 2, 0, 7, 0), Check.OUTSIDE);
    C.due("drops as they were", x.ofLine(0, 0), 5);
    C.due("start as it was", x.ofCrier(0, 2), 0);
    C.due("fault", x.fault(), 0);
  }

  private static void dayRefused() {
    RainRead none = new RainRead();
    C.due("sheet", none.day(4, 3, -1, 21, 5), Check.UNKNOWN);
    C.due("sheet", none.day(-1, 0, 0, 0, 0), Check.UNKNOWN);
    C.due("lane", none.day(0, 3, 0, 0, 0), Check.OUTSIDE);
    C.due("lane", none.day(0, -1, 0, 0, 0), Check.OUTSIDE);
    C.due("n", none.day(0, 0, 0, 21, 0), Check.OUTSIDE);
    C.due("n", none.day(0, 0, 0, -1, 0), Check.OUTSIDE);
    for (int what : new int[] {-1, 5, 9, 14, Check.GREATEST, Check.LEAST}) {
      C.due("what " + what, none.day(0, 0, 0, 0, what), Check.OUTSIDE);
    }
    C.due("state", none.day(0, 0, -1, 20, 13), Check.STATE);
    C.due("no fault", none.fault(), 0);

    RainRead x = Check.of("s,50,31;p10;m10");
    C.due("null", x.day(1, 0, -1, 0, 0), Check.NULL);
    C.due("NULL", x.fault(), 1);
    x.sheet(1, 1, 4);
    C.due("cast", x.day(1, 0, -1, 0, 0), Check.CAST);
    C.due("CAST", x.fault(), 2);
    C.due("index", x.day(1, 1, -1, 0, 0), Check.INDEX);
    C.due("INDEX", x.fault(), 3);
    C.due("at the end", x.day(1, 1, 4, 0, 1), Check.NONE);
    C.due("no fault", x.fault(), 0);
    C.due("beyond the end", x.day(1, 1, 5, 0, 0), Check.INDEX);
    C.due("half a pair", x.day(1, 1, 1, 2, 0), Check.INDEX);
    C.due("far", x.day(1, 1, Check.GREATEST, 20, 0), Check.INDEX);
    C.due("two pairs", x.day(1, 1, 0, 2, 1), Check.NONE);
    int[][] outside = {{10, 0}, {-1, 5}, {6, 6}, {-1, 8}, {6, 9}, {-1, 12}, {0, 13}, {0, -1}};
    for (int[] pair : outside) {
      Check.pairs(x, pair);
      C.due("pair " + pair[0] + " " + pair[1], x.day(3, 2, 0, 1, 1), Check.OUTSIDE);
    }
    int[][] within = {{9, 1}, {0, 0}, {1, 6}, {0, 7}, {5, 9}, {0, 12}};
    for (int[] pair : within) {
      Check.pairs(x, pair);
      C.due("pair " + pair[0] + " " + pair[1], x.day(3, 2, 0, 1, 1), Check.NONE);
    }
    x.sheet(2, 0, 40);
    C.due("twenty pairs", x.day(2, 0, 0, 20, 1), Check.NONE);
    C.due("a refusal has no fault", x.day(9, 0, 0, 0, 0), Check.UNKNOWN);
    C.due("no fault", x.fault(), 0);
  }
}
