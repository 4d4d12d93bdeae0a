/** Promises 17 to 22: reading, back, kinds, paces, starts, odds. */
public final class ReadingTest {
  private static final Check C = new Check();

  public static void main(String[] args) {
    readings();
    sets();
    odds();
    C.end("ReadingTest");
  }

  private static void readings() {
    RainRead x = Check.of(Check.SLOW);
    for (int k = 0; k < 8; k++) {
      C.due("reading " + k, x.reading(k % 4, 120), k);
    }
    C.due("full", x.reading(0, 0), Check.FULL);
    C.due("full, field", x.reading(4, 121), Check.UNKNOWN);
    C.due("full, v", x.reading(0, 121), Check.OUTSIDE);
    C.due("field -1", x.reading(-1, 0), Check.UNKNOWN);
    C.due("v -1", x.reading(0, -1), Check.OUTSIDE);
    C.due("many", x.many(4), 8);
    C.due("back 9", x.back(9), Check.OUTSIDE);
    C.due("back -1", x.back(-1), Check.OUTSIDE);
    C.due("back 0", x.back(0), 8);
    C.due("back 3", x.back(3), 5);
    C.due("numbered on", x.reading(0, 0), 5);
    C.due("back 6", x.back(6), 0);
    C.due("back 1", x.back(1), Check.OUTSIDE);
    C.due("numbered from 0", x.reading(0, 0), 0);
    RainRead none = new RainRead();
    C.due("no shower, field", none.reading(4, 0), Check.UNKNOWN);
    C.due("no shower, v", none.reading(0, 121), Check.OUTSIDE);
    C.due("no shower", none.reading(0, 120), Check.STATE);
    C.due("no shower, back", none.back(0), 0);
  }

  private static void sets() {
    RainRead x = Check.of("s,50,31;p10;m11");
    is("no readings", x, 0, 7, 14, 3);
    x.reading(0, 5);
    is("5 on field 0", x, 0, 1, 14, 1);
    is("5 on field 0", x, 1, 7, 14, 2);
    x.reading(1, 2);
    is("and 2 on field 1", x, 0, 1, 2, 1);
    is("and 2 on field 1", x, 1, 2, 14, 2);
    x.reading(1, 3);
    is("both can't be", x, 0, 0, 0, 0);
    is("both can't be", x, 1, 0, 0, 0);
    x.back(2);
    is("the last taken back", x, 1, 7, 14, 2);
    x.back(1);
    x.reading(1, 5);
    is("chanted", x, 0, 0, 0, 0);
    is("chanted", x, 1, 4, 0, 0);
    x.back(1);
    x.cough(0, 0);
    x.reading(1, 7);
    is("turned", x, 0, 1, 2, 1);
    is("turned", x, 1, 2, 14, 2);
    C.due("nothing is changed", x.ofCrier(1, 0) * 100 + x.ofCrier(1, 1) * 10 + x.ofCrier(1, 2), 111);
    for (int c : new int[] {-1, 2, 3}) {
      is("no crier", x, c, Check.UNKNOWN, Check.UNKNOWN, Check.UNKNOWN);
    }
    is("no shower", new RainRead(), 0, Check.UNKNOWN, Check.UNKNOWN, Check.UNKNOWN);
  }

  private static void is(String when, RainRead x, int c, int kinds, int paces, int starts) {
    C.due(when + ": kinds " + c, x.kinds(c), kinds);
    C.due(when + ": paces " + c, x.paces(c), paces);
    C.due(when + ": starts " + c, x.starts(c), starts);
  }

  private static void odds() {
    RainRead x = Check.of("s,50,31;p10;m10");
    share(x, 0, 0, 1, 1);
    share(x, 0, 1, 1, 2);
    share(x, 0, 4, 1, 2);
    share(x, 0, 5, 1, 4);
    share(x, 0, 6, 0, 1);
    share(x, 2, 0, 1, 1);
    share(x, 2, 1, 0, 1);
    share(x, 3, 120, 0, 1);
    x.reading(0, 5);
    share(x, 0, 5, 1, 4);
    x.cough(0, 0);
    share(x, 0, 1, 0, 1);
    share(x, 1, 7, 1, 2);
    C.due("starts are kept", x.ofCrier(0, 2) + x.ofCrier(1, 2), 0);
    RainRead thirds = Check.of("s,90,00,00;p10");
    share(thirds, 0, 9, 1, 3);
    C.due("field 4", x.odds(4, 0, 0), RainRead.LOST);
    C.due("field -1", x.odds(-1, 0, 0), RainRead.LOST);
    C.due("v 121", x.odds(0, 121, 0), RainRead.LOST);
    C.due("v -1", x.odds(0, -1, 0), RainRead.LOST);
    C.due("which 2", x.odds(0, 0, 2), RainRead.LOST);
    C.due("which -1", x.odds(0, 0, -1), RainRead.LOST);
    C.due("no shower", new RainRead().odds(0, 0, 0), RainRead.LOST);
  }

  private static void share(RainRead x, int f, int v, int upper, int lower) {
    C.due("odds upper " + f + " " + v, x.odds(f, v, 0), upper);
    C.due("odds lower " + f + " " + v, x.odds(f, v, 1), lower);
  }
}
