/** Terms 4 and promises 17 to 22, sentence by sentence: the edges of readings and odds. */
public final class ReadingEdgeTest {
  private static final Check C = new Check();
  private static final int[] NO_FIELD = {-1, 4, Check.LEAST, Check.GREATEST};
  private static final int[] NO_CRIER = {-1, 3, Check.LEAST, Check.GREATEST};
  private static final int[] NO_WET = {-1, 121, Check.LEAST, Check.GREATEST};

  public static void main(String[] args) {
    numbers();
    readingsRefused();
    backs();
    inPlaceAlone();
    kinds();
    paces();
    starts();
    shares();
    oddsRefused();
    C.end("ReadingEdgeTest");
  }

  private static void numbers() {
    C.says(0, "READINGS, 8 at most, numbered by how many there are");
    RainRead x = Check.of(Check.SLOW);
    for (int k = 0; k < 8; k++) {
      C.due("so many", x.many(4), k);
      C.due("its number", x.reading(0, 6), k);
    }
    C.due("a ninth", x.reading(0, 6), Check.FULL);
    C.due("so many", x.many(4), 8);
    C.due("one back", x.back(1), 7);
    C.due("the eighth again", x.reading(0, 6), 7);
    C.due("a ninth", x.reading(0, 6), Check.FULL);
    C.due("all back", x.back(8), 0);
    C.due("the first again", x.reading(0, 6), 0);
    C.says(0, "a FIELD has WET v");
    for (int v = 4; v <= 6; v++) {
      RainRead y = Check.of("s,50;p10");
      y.reading(0, v);
      C.due("wet " + v, y.starts(0), v == 5 ? 1 : 0);
    }
  }

  private static void readingsRefused() {
    C.says(17, "A READING: its number");
    RainRead x = Room.wet();
    C.due("the least", x.reading(0, 0), 2);
    C.due("the greatest", x.reading(3, 120), 3);
    C.due("what can't be is a reading, too", x.starts(0), 0);
    C.due("fault is as it was", x.fault(), 2);
    C.says(17, "UNKNOWN: FIELD; OUTSIDE: v (0 .. 120); STATE: there is no SHOWER; FULL");
    C.refuses("field", Room::wet, Check.UNKNOWN, (y, v) -> y.reading(v, 0), NO_FIELD);
    C.refuses("v", Room::wet, Check.OUTSIDE, (y, v) -> y.reading(3, v), NO_WET);
    C.refuses("field, v", Room::wet, Check.UNKNOWN, (y, v) -> y.reading(4, v), NO_WET);
    C.refuses("no shower", Room::dry, Check.STATE, (y, v) -> y.reading(v, 120), 0, 3);
    C.refuses("no shower, field", Room::dry, Check.UNKNOWN, (y, v) -> y.reading(v, 0), NO_FIELD);
    C.refuses("no shower, v", Room::dry, Check.OUTSIDE, (y, v) -> y.reading(0, v), NO_WET);
    C.refuses("full", Room::full, Check.FULL, (y, v) -> y.reading(v, 120), 0, 3);
    C.refuses("full, field", Room::full, Check.UNKNOWN, (y, v) -> y.reading(v, 0), NO_FIELD);
    C.refuses("full, v", Room::full, Check.OUTSIDE, (y, v) -> y.reading(0, v), NO_WET);
  }

  private static void backs() {
    C.says(18, "The last k READINGS (0 .. as many as there are) are taken back: how many are left");
    for (int k = 0; k <= 8; k++) {
      RainRead x = Room.full();
      C.due("back " + k, x.back(k), 8 - k);
      C.due("left", x.many(4), 8 - k);
      C.due("no more than are left", x.back(9 - k), Check.OUTSIDE);
      C.due("as many as are left", x.back(8 - k), 0);
    }
    RainRead x = Check.of("s,50;p10");
    x.reading(0, 5);
    x.reading(0, 4);
    C.due("both can't be", x.kinds(0), 0);
    C.due("the last", x.back(1), 1);
    C.due("the first stays", x.kinds(0), 1);
    C.due("none", x.back(0), 1);
    C.due("it stays", x.kinds(0), 1);
    C.due("without a shower, none", Room.dry().back(0), 0);
    C.says(18, "OUTSIDE");
    C.refuses("two", Room::wet, Check.OUTSIDE, (y, v) -> y.back(v), -1, 3, 8, Check.LEAST, Check.GREATEST);
    C.refuses("eight", Room::full, Check.OUTSIDE, (y, v) -> y.back(v), -1, 9, Check.LEAST, Check.GREATEST);
    C.refuses("no shower", Room::dry, Check.OUTSIDE, (y, v) -> y.back(v), -1, 1, Check.LEAST, Check.GREATEST);
  }

  private static void inPlaceAlone() {
    C.says(0, "All that follows: in place of what it is alone, by which all READINGS are so");
    RainRead x = Check.of("s,50,31;p10;m11");
    x.reading(0, 5);
    x.reading(1, 2);
    C.due("kinds of 0", x.kinds(0), 1);
    C.due("kinds of 1", x.kinds(1), 2);
    C.due("paces of 0", x.paces(0), 2);
    C.due("paces of 1", x.paces(1), 14);
    C.due("starts of 0", x.starts(0), 1);
    C.due("starts of 1", x.starts(1), 2);
    C.due("one that is not so", x.reading(3, 1), 2);
    C.due("kinds of 0", x.kinds(0) + x.paces(0) + x.starts(0), 0);
    x.back(1);
    C.due("as all is now: drops", x.print(0, 6), 5);
    C.due("kinds of 0: one that mumbles gives 5", x.kinds(0), 2);
    C.due("kinds of 1: none", x.kinds(1), 0);
    x.print(0, 5);
    x.cough(0, 0);
    C.due("as all is now: coughs", x.kinds(0) + x.paces(0) + x.starts(0), 0);
    RainRead kept = Room.wet();
    for (int c = 0; c < 3; c++) {
      kept.kinds(c);
      kept.paces(c);
      kept.starts(c);
    }
    C.due("nothing is changed", Room.told(kept), Room.told(Room.wet()));
  }

  private static void kinds() {
    C.says(0, "KINDS of a CRIER: 0 .. 2");
    int[][] due = {{5, 1}, {4, 2}, {9, 4}, {6, 0}, {0, 0}};
    for (int[] row : due) {
      RainRead x = Check.of("s,50;p10");
      x.reading(0, row[0]);
      C.due("wet " + row[0], x.kinds(0), row[1]);
    }
    RainRead one = Check.of("s,10;c10");
    one.reading(0, 1);
    C.due("plain and chanting give 1 of 1", one.kinds(0), 5);
    C.says(19, "KINDS, as a set");
    for (int c = 0; c < 3; c++) {
      C.due("without readings", Check.of(Check.MOST).kinds(c), 7);
    }
    C.due("by eight that can't be", Room.full().kinds(0), 0);
    C.says(19, "UNKNOWN");
    C.refuses("crier", Room::wet, Check.UNKNOWN, (y, v) -> y.kinds(v), NO_CRIER);
    C.refuses("no shower", Room::dry, Check.UNKNOWN, (y, v) -> y.kinds(v), 0, -1, 3);
    C.due("the second of one", one.kinds(1), Check.UNKNOWN);
  }

  private static void paces() {
    C.says(0, "PACES: 1 .. 3");
    int[][] due = {{2, 6}, {0, 8}, {3, 0}};
    for (int[] row : due) {
      RainRead x = Check.of("s,10,21,32;p10;m12");
      x.reading(2, row[0]);
      C.due("wet " + row[0], x.paces(0), row[1]);
    }
    C.says(20, "PACES, as a set");
    for (int c = 0; c < 3; c++) {
      C.due("without readings", Check.of(Check.MOST).paces(c), 14);
    }
    C.due("by eight that can't be", Room.full().paces(2), 0);
    C.says(20, "UNKNOWN");
    C.refuses("crier", Room::wet, Check.UNKNOWN, (y, v) -> y.paces(v), NO_CRIER);
    C.refuses("no shower", Room::dry, Check.UNKNOWN, (y, v) -> y.paces(v), 0, -1, 3);
    C.due("the second of one", Check.of("s,00,00;p10").paces(1), Check.UNKNOWN);
  }

  private static void starts() {
    C.says(0, "STARTS: each LINE; as sets");
    int[][] due = {{2, 3, 7}, {1, 2, 3}, {0, 1, 1}, {0, 0, 6}, {3, 0, 7}, {3, 1, 0}};
    for (int[] row : due) {
      RainRead x = Check.of("s,10,21,32;p10");
      x.reading(row[0], row[1]);
      C.due("wet of " + row[0] + " is " + row[1], x.starts(0), row[2]);
    }
    C.says(21, "STARTS, as a set");
    for (int lines = 1; lines <= 6; lines++) {
      RainRead x = Check.of("s" + ",00,00,00,00,00,00".substring(0, 3 * lines) + ";p10");
      C.due("without readings, " + lines + " lines", x.starts(0), (1 << lines) - 1);
    }
    C.due("by eight that can't be", Room.full().starts(1), 0);
    C.says(21, "UNKNOWN");
    C.refuses("crier", Room::wet, Check.UNKNOWN, (y, v) -> y.starts(v), NO_CRIER);
    C.refuses("no shower", Room::dry, Check.UNKNOWN, (y, v) -> y.starts(v), 0, -1, 3);
    C.due("the second of one", Check.of("s,00,00;p10").starts(1), Check.UNKNOWN);
  }

  private static void share(RainRead x, int f, int v, int upper, int lower) {
    C.due("odds of " + f + " " + v + ", upper", x.odds(f, v, 0), upper);
    C.due("odds of " + f + " " + v + ", lower", x.odds(f, v, 1), lower);
  }

  private static void shares() {
    C.says(0, "ODDS of a FIELD, v: of all BEGINNINGS, all alike, the share of those by which it has WET v or more");
    RainRead six = Check.of("s,10,10,10,10,10,10;p15;p15;p15");
    share(six, 0, 0, 1, 1);
    share(six, 0, 6, 5, 18);
    share(six, 0, 7, 0, 1);
    RainRead one = Check.of("s,93;c10");
    share(one, 3, 17, 1, 1);
    share(one, 3, 18, 0, 1);
    share(Check.of("s,93;p10;p10;p10"), 3, 1, 0, 1);
    share(Check.of("s,10,21;p10;p10"), 0, 1, 1, 2);
    share(Check.of("s,10,21;p10;p10"), 1, 2, 1, 2);
    RainRead coughs = Check.of("s,10,21;p10");
    share(coughs, 1, 2, 1, 1);
    coughs.cough(1, 0);
    share(coughs, 1, 2, 1, 2);
    coughs.reading(1, 0);
    share(coughs, 1, 2, 1, 2);
    RainRead most = Check.of("s,93,93,93,93,93,93;c15");
    share(most, 3, 102, 1, 6);
    share(most, 3, 103, 0, 1);
  }

  private static void oddsRefused() {
    C.says(22, "ODDS of v (0 .. 120; which 0 the upper, 1 the lower number)");
    RainRead x = Room.wet();
    share(x, 0, 0, 1, 1);
    share(x, 3, 120, 0, 1);
    C.due("fault is as it was", x.fault(), 2);
    C.due("nothing is changed", Room.told(x), Room.told(Room.wet()));
    C.says(22, "LOST: UNKNOWN: FIELD; OUTSIDE; STATE: there is no SHOWER");
    C.refuses("field", Room::wet, Check.LOST, (y, v) -> y.odds(v, 0, 0), NO_FIELD);
    C.refuses("v", Room::wet, Check.LOST, (y, v) -> y.odds(3, v, 1), NO_WET);
    C.refuses("which", Room::wet, Check.LOST, (y, v) -> y.odds(0, 0, v), -1, 2, Check.LEAST, Check.GREATEST);
    C.refuses("no shower", Room::dry, Check.LOST, (y, v) -> y.odds(v, 0, 1), -1, 0, 3, 4);
  }
}
