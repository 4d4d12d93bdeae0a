/** Terms 2 and promises 7 to 10, sentence by sentence: the edges of coughs and of days that are told. */
public final class CoughEdgeTest {
  private static final Check C = new Check();
  private static final int[] NO_FIELD = {-1, 4, Check.LEAST, Check.GREATEST};
  private static final int[] NO_HOUR = {-1, 6, Check.LEAST, Check.GREATEST};
  private static final int[] ASKED = {0, 2, 3, 4, 10, 11, 12, 13};

  public static void main(String[] args) {
    whoCoughs();
    turnedAndLost();
    coughs();
    comings();
    wets();
    actsOfDay();
    wrongActs();
    daysOfPairs();
    daysAsked();
    daysWithFirstWrong();
    daysRefused();
    daysFaulted();
    daysOutside();
    C.end("CoughEdgeTest");
  }

  private static void whoCoughs() {
    C.says(0, "Who COUGHS: for each FIELD and HOUR it does, or not");
    RainRead x = Check.of(Check.SLOW);
    for (int k = 0; k < 24; k++) {
      C.due("field " + k / 6 + " hour " + k % 6, x.cough(k / 6, k % 6), 1);
      C.due("so many", x.many(2), k + 1);
    }
    C.due("all is lost", x.many(3), 0);
    for (int k = 0; k < 24; k++) {
      C.due("no more: field " + k / 6 + " hour " + k % 6, x.cough(k / 6, k % 6), 0);
    }
    C.due("nobody", x.many(2), 0);
    C.due("all comes down", x.many(3), 21);
  }

  private static void turnedAndLost() {
    C.says(0, "What FALLS for a FIELD that COUGHS in that HOUR, goes to the next one instead");
    for (int f = 0; f < 4; f++) {
      int next = f == 3 ? 0 : f + 1;
      RainRead x = Check.of("s,5" + f + ";p10");
      for (int t = 1; t < 6; t++) {
        x.cough(f, t);
      }
      C.due("not in other hours", x.wet(f), 5);
      x.cough(f, 0);
      for (int g = 0; g < 4; g++) {
        C.due("for " + f + ", wet " + g, x.wet(g), g == next ? 5 : 0);
      }
      C.says(0, "if that COUGHS, too, it is lost");
      x.cough(next, 1);
      C.due("not in another hour", x.wet(next), 5);
      x.cough(next, 0);
      C.due("for " + f + ", wet of all", x.many(3), 0);
      x.cough(f, 0);
      C.due("not for the next one's", x.wet(f), 5);
    }
    RainRead x = Check.of("s,50,63;p20");
    x.cough(1, 0);
    C.due("what falls for others stays", x.wet(0) * 10 + x.wet(3), 56);
    x.cough(0, 0);
    x.cough(3, 0);
    C.due("two lost", x.many(3), 0);
    C.due("still they fall", x.ofLine(0, 4) * 10 + x.ofLine(1, 4), 56);
    x.cough(0, 0);
    C.due("turned to one that has its own", x.wet(0), 11);
  }

  private static void coughs() {
    C.says(7, "A FIELD COUGHS in an HOUR (0 .. 5), if it did not; else it does no more: 1, 0");
    for (int[] at : new int[][] {{0, 0}, {0, 5}, {3, 0}, {3, 5}}) {
      RainRead x = Check.of(Check.SLOW);
      C.due("it does", x.cough(at[0], at[1]), 1);
      C.due("one", x.many(2), 1);
      C.due("no more", x.cough(at[0], at[1]), 0);
      C.due("none", x.many(2), 0);
      C.due("again", x.cough(at[0], at[1]), 1);
    }
    C.says(7, "UNKNOWN: FIELD; OUTSIDE; STATE: there is no SHOWER");
    C.refuses("field", Room::wet, Check.UNKNOWN, (x, v) -> x.cough(v, 0), NO_FIELD);
    C.refuses("hour", Room::wet, Check.OUTSIDE, (x, v) -> x.cough(3, v), NO_HOUR);
    C.refuses("both", Room::wet, Check.UNKNOWN, (x, v) -> x.cough(4, v), NO_HOUR);
    C.refuses("no shower", Room::dry, Check.STATE, (x, v) -> x.cough(v, 5), 0, 3);
    C.refuses("no shower, field", Room::dry, Check.UNKNOWN, (x, v) -> x.cough(v, 0), NO_FIELD);
    C.refuses("no shower, hour", Room::dry, Check.OUTSIDE, (x, v) -> x.cough(0, v), NO_HOUR);
  }

  private static void comings() {
    C.says(8, "What comes to a FIELD in an HOUR (0 .. 5)");
    RainRead x = Check.of(Check.SLOW);
    int[] drops = {1, 2, 3, 4, 5, 6};
    for (int k = 0; k < 24; k++) {
      C.due("comes " + k / 6 + " " + k % 6, x.comes(k / 6, k % 6), k % 6 % 4 == k / 6 ? drops[k % 6] : 0);
    }
    x.cough(3, 3);
    C.due("turned from 3", x.comes(3, 3), 0);
    C.due("turned to 0", x.comes(0, 3), 4);
    x.cough(0, 3);
    C.due("lost", x.comes(0, 3), 0);
    C.due("several lines in one hour", Check.of("s,91,91,91;c30").comes(1, 0), 51);
    C.says(8, "UNKNOWN: FIELD; OUTSIDE; STATE: there is no SHOWER");
    C.refuses("field", Room::wet, Check.UNKNOWN, (y, v) -> y.comes(v, 0), NO_FIELD);
    C.refuses("hour", Room::wet, Check.OUTSIDE, (y, v) -> y.comes(3, v), NO_HOUR);
    C.refuses("both", Room::wet, Check.UNKNOWN, (y, v) -> y.comes(4, v), NO_HOUR);
    C.refuses("no shower", Room::dry, Check.STATE, (y, v) -> y.comes(v, 5), 0, 3);
    C.refuses("no shower, field", Room::dry, Check.UNKNOWN, (y, v) -> y.comes(v, 0), NO_FIELD);
    C.refuses("no shower, hour", Room::dry, Check.OUTSIDE, (y, v) -> y.comes(0, v), NO_HOUR);
  }

  private static void wets() {
    C.says(0, "WET of a FIELD: all that comes to it");
    RainRead x = Check.of(Check.SLOW);
    x.cough(0, 4);
    for (int f = 0; f < 4; f++) {
      int all = 0;
      for (int t = 0; t < 6; t++) {
        all += x.comes(f, t);
      }
      C.due("wet " + f, x.wet(f), all);
    }
    C.says(9, "WET of a FIELD");
    for (int f = 0; f < 4; f++) {
      C.due("wet " + f, x.wet(f), new int[] {1, 13, 3, 4}[f]);
    }
    C.due("the most there may be", Check.of("s,93,93,93,93,93,93;c10").wet(3), 102);
    C.due("nothing", Check.of("s,03;c10").wet(3), 0);
    C.says(9, "UNKNOWN: FIELD; STATE: there is no SHOWER");
    C.refuses("field", Room::wet, Check.UNKNOWN, (y, v) -> y.wet(v), NO_FIELD);
    C.refuses("no shower", Room::dry, Check.STATE, (y, v) -> y.wet(v), 0, 3);
    C.refuses("no shower, field", Room::dry, Check.UNKNOWN, (y, v) -> y.wet(v), NO_FIELD);
  }

  /** All that a DAY of these pairs answers: wet of all, what hangs, mud, what is lost, wet 0 .. 3. */
  private static void day(RainRead x, String due, int... pairs) {
    Check.pairs(x, pairs);
    int n = pairs.length / 2;
    StringBuilder got = new StringBuilder();
    for (int what : ASKED) {
      got.append(what == 0 ? "" : " ").append(x.day(3, 2, 0, n, what));
    }
    C.due("a day of " + n, got.toString(), due);
    C.due("no first wrong", x.day(3, 2, 0, n, 1), Check.NONE);
  }

  private static void actsOfDay() {
    C.says(0, "A DAY told: a row of pairs, one behind another, from how all is now (nothing is changed)");
    RainRead x = Check.of(Check.SLOW);
    day(x, "21 0 0 0 6 8 3 4");
    day(x, "29 0 0 0 14 8 3 4", 9, 0);
    day(x, "21 0 0 0 6 8 3 4", 9, 0, 1, 0);
    day(x, "17 1 0 0 5 8 0 4", 9, 0, 0, 2, 1, 6);
    C.due("nothing is changed", x.many(3), 21);
    RainRead kept = Room.wet();
    kept.day(1, 1, 0, 3, 0);
    C.due("nothing is changed", Room.told(kept), Room.told(Room.wet()));
    C.says(0, "DROPS (0 .. 9) and 0 .. 5: DROPS of that LINE become that");
    day(x, "20 0 0 0 5 8 3 4", 0, 0);
    day(x, "15 0 0 0 6 2 3 4", 0, 5);
    day(x, "24 0 0 0 6 11 3 4", 9, 5);
    C.says(0, "START (0 .. 5) and 6 .. 8: START of the CRIER that is 6 less");
    day(x, "21 0 0 0 6 8 3 4", 0, 6);
    day(x, "6 31 0 0 0 6 0 0", 5, 6);
    RainRead three = Check.of("s,10,21,32,43,50,61;p10;p10;p10");
    day(three, "0 0 63 0 0 0 0 0");
    day(three, "0 0 63 0 0 0 0 0", 0, 7);
    day(three, "6 0 31 0 0 6 0 0", 5, 7);
    day(three, "6 0 31 0 0 6 0 0", 5, 8);
    day(three, "20 0 1 0 5 8 3 4", 1, 8);
    day(three, "21 0 0 0 6 8 3 4", 1, 8, 2, 7);
    C.says(0, "an HOUR (0 .. 5) and 9 .. 12: the FIELD that is 9 less COUGHS in that HOUR, if it did not");
    day(x, "21 0 0 0 5 9 3 4", 0, 9);
    day(x, "21 0 0 0 6 2 9 4", 5, 10);
    day(x, "21 0 0 0 10 8 3 0", 3, 12);
    day(x, "17 0 0 4 6 8 3 0", 3, 12, 3, 9);
    day(x, "21 0 0 0 6 8 3 4", 5, 9, 0, 12);
    C.says(0, "else it does no more");
    day(x, "21 0 0 0 6 8 3 4", 0, 9, 0, 9);
    day(x, "21 0 0 0 5 9 3 4", 0, 9, 0, 9, 0, 9);
    x.cough(0, 0);
    day(x, "21 0 0 0 5 9 3 4");
    day(x, "21 0 0 0 6 8 3 4", 0, 9);
    C.due("it still does", x.many(2), 1);
  }

  private static void wrong(RainRead x, int due, int... pairs) {
    Check.pairs(x, pairs);
    C.due("first wrong of " + pairs[0] + " " + pairs[1], x.day(3, 2, 0, pairs.length / 2, 1), due);
  }

  private static void wrongActs() {
    C.says(0, "FIRST WRONG: the first act that can't be (there is no such LINE, CRIER, START)");
    for (int lines = 1; lines <= 6; lines++) {
      RainRead x = Check.of("s" + ",00,00,00,00,00,00".substring(0, 3 * lines) + ";p10");
      for (int l = 0; l < 6; l++) {
        wrong(x, l < lines ? Check.NONE : 0, 9, l);
        wrong(x, l < lines ? Check.NONE : 0, l, 6);
      }
    }
    for (int criers = 1; criers <= 3; criers++) {
      RainRead x = Check.of("s,00" + ";p10;p10;p10".substring(0, 4 * criers));
      for (int c = 0; c < 3; c++) {
        wrong(x, c < criers ? Check.NONE : 0, 0, 6 + c);
        wrong(x, 0, 1, 6 + c);
      }
      wrong(x, Check.NONE, 5, 12);
    }
    RainRead x = Check.of("s,00,00;p10");
    wrong(x, 1, 9, 1, 9, 2, 9, 1);
    wrong(x, 1, 9, 1, 9, 2, 9, 3);
    wrong(x, 2, 5, 9, 5, 9, 0, 7, 2, 6);
  }

  private static void daysOfPairs() {
    C.says(10, "A DAY of n pairs, that are cells of a SHEET from i on (2 n)");
    for (int k = 0; k < 4; k++) {
      for (int lane = 0; lane < 3; lane++) {
        RainRead x = Check.of(Check.SLOW);
        x.sheet(k, lane, 60);
        x.put(k, 18, 9);
        x.put(k, 59, 12);
        x.put(k, 58, 3);
        C.due("none", x.day(k, lane, 60, 0, 0), 21);
        C.due("one", x.day(k, lane, 58, 1, 10), 10);
        C.due("twenty: drops 0", x.day(k, lane, 0, 20, 0), 20);
        C.due("twenty, the last is a cough", x.day(k, lane, 20, 20, 10), 9);
        C.due("nineteen, without it", x.day(k, lane, 20, 19, 10), 5);
        C.due("ten, the last is 9 drops", x.day(k, lane, 0, 10, 0), 29);
        C.due("from 18 on", x.day(k, lane, 18, 1, 0), 29);
        C.due("no fault", x.fault(), 0);
      }
    }
    RainRead x = Check.of(Check.SLOW);
    x.sheet(1, 0, 40);
    C.due("all of 40", x.day(1, 0, 0, 20, 1), Check.NONE);
    C.due("one less", x.day(1, 0, 1, 20, 1), Check.INDEX);
  }

  private static void daysAsked() {
    C.says(10, "WET of all FIELDS together then (what 0)");
    RainRead x = Room.wet();
    C.due("of none", x.day(1, 1, 0, 0, 0), 20);
    C.due("of three", x.day(1, 1, 0, 3, 0), 20);
    C.due("most", Check.of("s,93,93,93,93,93,93;c10").day(0, 0, 0, 0, 0), 102);
    C.says(10, "its FIRST WRONG (1; NONE)");
    C.due("of none", x.day(1, 1, 0, 0, 1), Check.NONE);
    C.due("of three", x.day(1, 1, 0, 3, 1), Check.NONE);
    C.says(10, "LINES that HANG then, as a set (2)");
    C.due("of none", x.day(1, 1, 0, 0, 2), 1);
    Check.pairs(x, 0, 6, 4, 6);
    C.due("none hangs", x.day(3, 2, 0, 1, 2), 0);
    C.due("three hang", x.day(3, 2, 0, 2, 2), 7);
    C.says(10, "those that are MUD then (3)");
    C.due("of none", x.day(1, 1, 0, 0, 3), 8);
    C.due("two are mud", x.day(3, 2, 0, 2, 3), 24);
    C.says(10, "what is lost then (4)");
    C.due("of none", x.day(1, 1, 0, 0, 4), 7);
    Check.pairs(x, 0, 9, 1, 12);
    C.due("0 coughs, too", x.day(3, 2, 0, 1, 4), 24);
    C.due("and 3 does no more", x.day(3, 2, 0, 2, 4), 17);
    C.says(10, "WET of FIELD f then (10 and f)");
    for (int f = 0; f < 4; f++) {
      C.due("of none, field " + f, x.day(1, 1, 0, 0, 10 + f), new int[] {17, 3, 0, 0}[f]);
      C.due("of two, field " + f, x.day(3, 2, 0, 2, 10 + f), new int[] {0, 3, 0, 7}[f]);
    }
  }

  private static void daysWithFirstWrong() {
    C.says(10, "of one with a FIRST WRONG: -100 less that (but what 1)");
    RainRead x = Room.wet();
    x.sheet(3, 2, 40);
    x.put(3, 39, 5);
    for (int what : ASKED) {
      C.due("the twentieth, what " + what, x.day(3, 2, 0, 20, what), -119);
      C.due("the first, what " + what, x.day(3, 2, 38, 1, what), -100);
      C.due("no fault", x.fault(), 0);
    }
    C.due("the twentieth", x.day(3, 2, 0, 20, 1), 19);
    C.due("the first", x.day(3, 2, 38, 1, 1), 0);
    C.due("not among them", x.day(3, 2, 0, 19, 1), Check.NONE);
    x.lose(3);
    C.due("nothing is changed", Room.told(x), Room.told(Room.wet()));
  }

  private static void daysRefused() {
    C.says(10, "UNKNOWN: SHEET; OUTSIDE: lane, n (0 .. 20), what (0 .. 4, 10 .. 13)");
    C.refusesClear("sheet", Room::wet, Check.UNKNOWN, (x, v) -> x.day(v, 0, 0, 0, 0), -1, 4, Check.LEAST, Check.GREATEST);
    C.refusesClear("lane", Room::wet, Check.OUTSIDE, (x, v) -> x.day(1, v, 0, 0, 0), -1, 3, Check.LEAST, Check.GREATEST);
    C.refusesClear("n", Room::wet, Check.OUTSIDE, (x, v) -> x.day(1, 1, 0, v, 0), -1, 21, Check.LEAST, Check.GREATEST);
    C.refusesClear("what", Room::wet, Check.OUTSIDE, (x, v) -> x.day(1, 1, 0, 0, v), -1, 5, 6, 9, 14, Check.LEAST, Check.GREATEST);
    C.refusesClear("UNKNOWN, lane", Room::wet, Check.UNKNOWN, (x, v) -> x.day(4, v, 0, 0, 0), -1, 3);
    C.refusesClear("UNKNOWN, n", Room::wet, Check.UNKNOWN, (x, v) -> x.day(4, 0, 0, v, 0), -1, 21);
    C.refusesClear("UNKNOWN, what", Room::wet, Check.UNKNOWN, (x, v) -> x.day(4, 0, 0, 0, v), -1, 5);
    C.says(10, "STATE: there is no SHOWER; CAST; NULL; INDEX");
    C.refusesClear("STATE", Room::dry, Check.STATE, (x, v) -> x.day(1, 1, 0, v, 0), 0, 1, 3);
    C.refusesClear("UNKNOWN, STATE", Room::dry, Check.UNKNOWN, (x, v) -> x.day(v, 1, 0, 0, 0), -1, 4);
    C.refusesClear("lane, STATE", Room::dry, Check.OUTSIDE, (x, v) -> x.day(1, v, 0, 0, 0), -1, 3);
    C.refusesClear("n, STATE", Room::dry, Check.OUTSIDE, (x, v) -> x.day(1, 1, 0, v, 0), -1, 21);
    C.refusesClear("what, STATE", Room::dry, Check.OUTSIDE, (x, v) -> x.day(1, 1, 0, 0, v), -1, 5, 9, 14);
    C.refusesClear("STATE, CAST", Room::dry, Check.STATE, (x, v) -> x.day(1, v, 0, 0, 0), 0, 2);
    C.refusesClear("STATE, NULL", Room::dry, Check.STATE, (x, v) -> x.day(3, v, 0, 0, 0), 0, 1, 2);
    C.refusesClear("STATE, INDEX", Room::dry, Check.STATE, (x, v) -> x.day(1, 1, v, 0, 0), -1, 7);
    C.refusesClear("STATE, a pair OUTSIDE", Room::dry, Check.STATE, (x, v) -> x.day(2, 2, v, 1, 0), 0, 1);
  }

  private static void daysFaulted() {
    C.says(10, "STATE: there is no SHOWER; CAST; NULL; INDEX");
    C.faults("bytes", Room::wet, 2, (x, v) -> x.day(0, v, 0, 0, 0), 1, 2);
    C.faults("shorts", Room::wet, 2, (x, v) -> x.day(1, v, 0, 0, 0), 0, 2);
    C.faults("ints", Room::wet, 2, (x, v) -> x.day(2, v, 0, 0, 0), 0, 1);
    C.faults("nothing", Room::wet, 1, (x, v) -> x.day(3, v, 0, 0, 0), 0, 1, 2);
    C.faults("i", Room::wet, 3, (x, v) -> x.day(1, 1, v, 1, 0), -1, 5, 6, 7, Check.LEAST, Check.GREATEST);
    C.faults("n", Room::wet, 3, (x, v) -> x.day(1, 1, 0, v, 0), 4, 20);
    C.faults("i and n", Room::wet, 3, (x, v) -> x.day(1, 1, v, 3, 0), 1, 2, 6);
    C.faults("CAST, INDEX", Room::wet, 2, (x, v) -> x.day(1, 0, v, 1, 0), -1, 7);
    C.faults("NULL, INDEX", Room::wet, 1, (x, v) -> x.day(3, 0, v, 1, 0), -1, 0, 1);
    C.faults("INDEX, a pair OUTSIDE", Room::wet, 3, (x, v) -> x.day(2, 2, v, 2, 0), 0, 1);
    C.faults("CAST, a pair OUTSIDE", Room::wet, 2, (x, v) -> x.day(2, v, 0, 1, 0), 0, 1);
  }

  private static void daysOutside() {
    C.says(10, "pair by pair OUTSIDE: the second is not 0 .. 12, the first is not as told with it");
    RainRead x = Check.of(Check.MOST);
    for (int second : new int[] {-1, 13, Check.LEAST, Check.GREATEST}) {
      outside(x, true, 0, second);
    }
    for (int second = 0; second < 13; second++) {
      int greatest = second < 6 ? 9 : 5;
      outside(x, true, -1, second);
      outside(x, false, 0, second);
      outside(x, false, greatest, second);
      outside(x, true, greatest + 1, second);
    }
    RainRead y = Check.of(Check.MOST);
    outside(y, true, Check.LEAST, 0);
    outside(y, true, Check.GREATEST, 0);
    outside(y, true, Check.LEAST, 12);
    outside(y, true, Check.GREATEST, 12);
    Check.pairs(y, 0, 0, 0, 0, 0, 13);
    C.due("the last of three", y.day(3, 2, 0, 3, 0), Check.OUTSIDE);
    C.due("not taken", y.day(3, 2, 0, 2, 1), Check.NONE);
    RainRead one = Check.of("s,00;p10");
    Check.pairs(one, 0, 13, 0, 5);
    C.due("OUTSIDE ahead of a first wrong", one.day(3, 2, 0, 2, 1), Check.OUTSIDE);
    Check.pairs(one, 10, 5, 6, 8);
    C.due("drops OUTSIDE for a line that there is not", one.day(3, 2, 0, 1, 0), Check.OUTSIDE);
    C.due("a start OUTSIDE for a crier that there is not", one.day(3, 2, 2, 1, 0), Check.OUTSIDE);
    Check.pairs(one, 0, 5, 0, 13);
    C.due("OUTSIDE behind a first wrong", one.day(3, 2, 0, 2, 1), Check.OUTSIDE);
    C.due("OUTSIDE behind a first wrong", one.day(3, 2, 0, 2, 0), Check.OUTSIDE);
    C.due("a first wrong alone", one.day(3, 2, 0, 1, 0), -100);
    C.refusesClear("a pair of wet's ints", Room::wet, Check.OUTSIDE, (z, v) -> z.day(2, 2, v, 1, 1), 0, 1);
  }

  private static void outside(RainRead x, boolean is, int first, int second) {
    Check.pairs(x, first, second);
    C.due("pair " + first + " " + second, x.day(3, 2, 0, 1, 1), is ? Check.OUTSIDE : Check.NONE);
  }
}
