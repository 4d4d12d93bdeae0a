/** Promises 1 to 6, sentence by sentence: the edges of what is taken and what is refused. */
public final class ShowerEdgeTest {
  private static final Check C = new Check();
  private static final int[] NO_SHEET = {-1, 4, Check.LEAST, Check.GREATEST};
  private static final int[] NO_LANE = {-1, 3, Check.LEAST, Check.GREATEST};

  public static void main(String[] args) {
    newObject();
    showersFromAnywhere();
    showersWithFirstFault();
    showersRefused();
    showersInTheirOrder();
    ofLines();
    ofCriers();
    prints();
    begins();
    C.end("ShowerEdgeTest");
  }

  private static void newObject() {
    C.says(1, "No SHOWER (no LINES, CRIERS)");
    RainRead x = new RainRead();
    C.due("lines", x.many(0), 0);
    C.due("criers", x.many(1), 0);
    C.due("coughs", x.many(2), 0);
    C.due("wet", x.many(3), 0);
    C.due("readings", x.many(4), 0);
    C.due("line 0", x.ofLine(0, 0), Check.UNKNOWN);
    C.due("crier 0", x.ofCrier(0, 0), Check.UNKNOWN);
    C.due("no shower", x.wet(0), Check.STATE);
    C.due("trace", x.trace(), 0);
    C.due("fault", x.fault(), 0);
    C.says(1, "SHEETS have nothing");
    for (int k = 0; k < 4; k++) {
      for (int lane = 0; lane < 3; lane++) {
        C.due("cell of " + k, x.cell(k, 0, lane), Check.LOST);
        C.due("fault of " + k, x.fault(), 1);
      }
      C.due("put into " + k, x.put(k, 0, 1), Check.NULL);
      C.due("lose " + k, x.lose(k), 0);
    }
    RainRead other = new RainRead();
    Check.take(other, "s,50;p10");
    C.due("objects have nothing in common", new RainRead().many(0) + new RainRead().lose(0), 0);
  }

  private static void showersFromAnywhere() {
    C.says(2, "A SHOWER by a TEXT of n cells of a SHEET from i on, taken as a row of a LANE: how many CRIERS");
    String[] texts = {"s,12;p10", "s,12;p10;m10", "s,12;p10;m10;c10"};
    for (int k = 0; k < 4; k++) {
      for (int lane = 0; lane < 3; lane++) {
        String text = texts[(k + lane) % 3];
        int last = 60 - text.length();
        for (int from : new int[] {0, 1, last}) {
          RainRead x = new RainRead();
          Check.write(x, k, lane, "x".repeat(from) + text + "x".repeat(last - from));
          C.due("from " + from, x.shower(k, lane, from, text.length()), (k + lane) % 3 + 1);
          C.due("its drops", x.ofLine(0, 0), 1);
          C.due("its field", x.ofLine(0, 1), 2);
          C.due("no fault", x.fault(), 0);
          C.due("the sheet is as it was", x.cell(k, from, lane), 's');
        }
      }
    }
    RainRead x = new RainRead();
    Check.write(x, 0, 0, "s,12;p10;m10;c10");
    C.due("8 cells", x.shower(0, 0, 0, 8), 1);
    C.due("12 cells", x.shower(0, 0, 0, 12), 2);
    C.due("16 cells", x.shower(0, 0, 0, 16), 3);
  }

  private static void showersWithFirstFault() {
    C.says(2, "-100 less the FIRST FAULT");
    C.refusesClear("no code", Room::wet, -100, (x, v) -> x.shower(0, 0, v, 0), 0, 1, 28);
    C.refusesClear("from the second code on", Room::wet, -100, (x, v) -> x.shower(0, 0, 1, v), 0, 1, 27);
    C.refusesClear("the place is told from i on", Room::wet, -101, (x, v) -> x.shower(0, 0, 0, v), 1);
    C.refusesClear("all but the last code", Room::wet, -127, (x, v) -> x.shower(0, 0, 0, v), 27);
    C.refusesClear("without a shower", Room::dry, -127, (x, v) -> x.shower(0, 0, 0, v), 27);
    RainRead x = new RainRead();
    Check.write(x, 0, 0, "xxx" + Check.MOST + "x".repeat(26));
    C.due("57 cells of 60", x.shower(0, 0, 3, 57), -131);
    C.due("32 cells", x.shower(0, 0, 3, 32), -131);
    C.due("31 cells", x.shower(0, 0, 3, 31), 3);
    C.due("30 cells", x.shower(0, 0, 3, 30), -130);
    C.due("no fault", x.fault(), 0);
  }

  private static void showersRefused() {
    C.says(2, "UNKNOWN; OUTSIDE: lane");
    C.refusesClear("sheet", Room::wet, Check.UNKNOWN, (x, v) -> x.shower(v, 0, 0, 28), NO_SHEET);
    C.refusesClear("lane", Room::wet, Check.OUTSIDE, (x, v) -> x.shower(0, v, 0, 28), NO_LANE);
    C.says(2, "CAST (nothing is no CAST); NULL");
    C.faults("bytes", Room::wet, 2, (x, v) -> x.shower(0, v, 0, 28), 1, 2);
    C.faults("shorts", Room::wet, 2, (x, v) -> x.shower(1, v, 0, 6), 0, 2);
    C.faults("ints", Room::wet, 2, (x, v) -> x.shower(2, v, 0, 3), 0, 1);
    C.faults("nothing", Room::wet, 1, (x, v) -> x.shower(3, v, 0, 0), 0, 1, 2);
    RainRead lost = Room.wet();
    lost.lose(0);
    C.due("what had a row of bytes", lost.shower(0, 1, 0, 0), Check.NULL);
    C.says(2, "SIZE: n below 0; INDEX; -100 less it");
    C.faults("n below 0", Room::wet, 4, (x, v) -> x.shower(0, 0, 0, v), -1, -28, Check.LEAST);
    C.faults("i", Room::wet, 3, (x, v) -> x.shower(0, 0, v, 1), -1, 28, 29, 60, Check.LEAST, Check.GREATEST);
    C.faults("n", Room::wet, 3, (x, v) -> x.shower(0, 0, 0, v), 29, 60, 61, Check.GREATEST);
    C.faults("i and n", Room::wet, 3, (x, v) -> x.shower(0, 0, v, 29 - v), 1, 2, 28);
    C.faults("n that wraps", Room::wet, 3, (x, v) -> x.shower(0, 0, v, Check.GREATEST), 1, 28, Check.GREATEST);
    C.refusesClear("the last i and n", Room::wet, -100, (x, v) -> x.shower(0, 0, v, 28 - v), 1, 2, 27, 28);
  }

  private static void showersInTheirOrder() {
    C.says(2, "UNKNOWN; OUTSIDE: lane; CAST (nothing is no CAST); NULL; SIZE: n below 0; INDEX; -100 less it");
    C.refusesClear("UNKNOWN, OUTSIDE", Room::wet, Check.UNKNOWN, (x, v) -> x.shower(v, v, 0, 0), NO_SHEET);
    C.refusesClear("UNKNOWN, SIZE", Room::wet, Check.UNKNOWN, (x, v) -> x.shower(v, 0, 0, -1), NO_SHEET);
    C.refusesClear("UNKNOWN, INDEX", Room::wet, Check.UNKNOWN, (x, v) -> x.shower(v, 0, -1, 0), NO_SHEET);
    C.refusesClear("OUTSIDE, NULL", Room::wet, Check.OUTSIDE, (x, v) -> x.shower(3, v, 0, 0), NO_LANE);
    C.refusesClear("OUTSIDE, CAST", Room::wet, Check.OUTSIDE, (x, v) -> x.shower(2, v, 0, 0), NO_LANE);
    C.refusesClear("OUTSIDE, SIZE, INDEX", Room::wet, Check.OUTSIDE, (x, v) -> x.shower(0, v, -1, -1), NO_LANE);
    C.faults("CAST, SIZE", Room::wet, 2, (x, v) -> x.shower(0, 1, 0, v), -1, Check.LEAST);
    C.faults("CAST, INDEX", Room::wet, 2, (x, v) -> x.shower(0, 1, v, 1), -1, 28);
    C.faults("NULL, SIZE", Room::wet, 1, (x, v) -> x.shower(3, 0, 0, v), -1, Check.LEAST);
    C.faults("NULL, INDEX", Room::wet, 1, (x, v) -> x.shower(3, 0, v, 1), -1, 0, 1);
    C.faults("SIZE, INDEX", Room::wet, 4, (x, v) -> x.shower(0, 0, v, -1), -1, 0, 28, 29, Check.LEAST, Check.GREATEST);
    C.faults("INDEX, a first fault", Room::wet, 3, (x, v) -> x.shower(0, 0, v, 28), 1, 2, 28);
  }

  private static void ofLines() {
    C.says(3, "Of a LINE: 0 DROPS, 1 FIELD");
    RainRead x = Check.of(Check.SLOW);
    for (int l = 0; l < 6; l++) {
      C.due("drops of " + l, x.ofLine(l, 0), l + 1);
      C.due("field of " + l, x.ofLine(l, 1), l % 4);
    }
    C.says(3, "2 the HOUR at which it is READ (NONE: it HANGS)");
    C.due("hour of the first", x.ofLine(0, 2), 0);
    C.due("hour of the last", x.ofLine(5, 2), 5);
    RainRead y = Room.wet();
    C.due("hour of what hangs", y.ofLine(0, 2), Check.NONE);
    C.due("hour of mud", y.ofLine(3, 2), 0);
    C.says(3, "3 the CRIER by whom it FALLS (NONE: it is MUD, it HANGS)");
    C.due("crier of what hangs", y.ofLine(0, 3), Check.NONE);
    C.due("crier of mud", y.ofLine(3, 3), Check.NONE);
    C.due("the first crier", y.ofLine(1, 3), 0);
    C.due("the last crier", y.ofLine(4, 3), 2);
    C.says(3, "4 what FALLS of it (0: it is MUD, it HANGS)");
    C.due("of what hangs", y.ofLine(0, 4), 0);
    C.due("of mud", y.ofLine(3, 4), 0);
    C.due("of what is turned", y.ofLine(4, 4), 17);
    C.due("of what is lost", y.ofLine(2, 4), 7);
    RainRead fell = Check.of("s,50,31;p10;p11");
    C.due("it falls", fell.ofLine(0, 4), 5);
    fell.begin(1, 0);
    C.due("it is mud now", fell.ofLine(0, 4), 0);
    fell.begin(1, 1);
    C.due("it falls again", fell.ofLine(0, 4), 5);
    fell.begin(0, 1);
    C.due("it hangs now", fell.ofLine(0, 4), 0);
    C.says(3, "UNKNOWN; OUTSIDE");
    C.refuses("line", Room::wet, Check.UNKNOWN, (z, v) -> z.ofLine(v, 0), -1, 5, 6, Check.LEAST, Check.GREATEST);
    C.refuses("what", Room::wet, Check.OUTSIDE, (z, v) -> z.ofLine(4, v), -1, 5, Check.LEAST, Check.GREATEST);
    C.refuses("both", Room::wet, Check.UNKNOWN, (z, v) -> z.ofLine(5, v), -1, 5);
    C.refuses("no shower", Room::dry, Check.UNKNOWN, (z, v) -> z.ofLine(v, 5), -1, 0);
  }

  private static void ofCriers() {
    C.says(4, "Of a CRIER: 0 kind, 1 PACE, 2 START");
    RainRead x = Room.wet();
    int[][] due = {{0, 1, 1, 6, 3}, {1, 1, 3, 0, 1}, {2, 2, 3, 16, 0}};
    for (int k = 0; k < 9; k++) {
      C.due("of crier " + k / 3 + " what " + k % 3, x.ofCrier(k / 3, k % 3), due[k / 3][k % 3]);
    }
    C.says(4, "3 LINES that FALL by him, as a set");
    for (int c = 0; c < 3; c++) {
      C.due("lines by " + c, x.ofCrier(c, 3), due[c][3]);
    }
    C.due("all lines", Check.of(Check.SLOW).ofCrier(0, 3), 63);
    C.due("the last line", Check.of("s,00,00,00,00,00,00;p15").ofCrier(0, 3), 32);
    C.due("lines of no drops", Check.of("s,00;m10").ofCrier(0, 3), 1);
    C.says(4, "4 the last HOUR at which he reads any");
    for (int c = 0; c < 3; c++) {
      C.due("last hour of " + c, x.ofCrier(c, 4), due[c][4]);
    }
    int[][] last = {{5, 4, 3, 2, 1, 0}, {2, 2, 1, 1, 0, 0}, {1, 1, 1, 0, 0, 0}};
    for (int k = 0; k < 18; k++) {
      RainRead y = Check.of("s,00,00,00,00,00,00;p" + (1 + k / 6) + k % 6);
      C.due("pace " + (1 + k / 6) + " from " + k % 6, y.ofCrier(0, 4), last[k / 6][k % 6]);
    }
    C.due("what he reads is mud", Check.of("s,00,00;p10;p10").ofCrier(1, 4), 1);
    C.due("what he reads has fallen", Check.of("s,00,00;p10;p20").ofCrier(0, 4), 1);
    C.says(4, "UNKNOWN; OUTSIDE");
    C.refuses("crier", Room::wet, Check.UNKNOWN, (z, v) -> z.ofCrier(v, 0), -1, 3, Check.LEAST, Check.GREATEST);
    C.refuses("what", Room::wet, Check.OUTSIDE, (z, v) -> z.ofCrier(2, v), -1, 5, Check.LEAST, Check.GREATEST);
    C.refuses("both", Room::wet, Check.UNKNOWN, (z, v) -> z.ofCrier(3, v), -1, 5);
    C.refuses("no shower", Room::dry, Check.UNKNOWN, (z, v) -> z.ofCrier(v, 5), -1, 0);
    RainRead one = Check.of("s,00,00;p10");
    C.due("the second of one", one.ofCrier(1, 0), Check.UNKNOWN);
  }

  private static void prints() {
    C.says(5, "DROPS of a LINE become v (0 .. 9): what they were");
    RainRead x = Check.of("s,50,31;p10");
    C.due("the least", x.print(0, 0), 5);
    C.due("they are", x.ofLine(0, 0), 0);
    C.due("the greatest", x.print(0, 9), 0);
    C.due("they are", x.ofLine(0, 0), 9);
    C.due("the same", x.print(0, 9), 9);
    C.due("of the last line", x.print(1, 8), 3);
    C.due("wet 0", x.wet(0), 9);
    C.due("wet 1", x.wet(1), 8);
    RainRead y = Room.wet();
    C.due("of what hangs", y.print(0, 1), 5);
    C.due("coughs stay", y.many(2), 3);
    C.due("readings stay", y.many(4), 2);
    C.due("fault stays", y.fault(), 2);
    C.says(5, "UNKNOWN; OUTSIDE");
    C.refuses("line", Room::wet, Check.UNKNOWN, (z, v) -> z.print(v, 1), -1, 5, 6, Check.LEAST, Check.GREATEST);
    C.refuses("drops", Room::wet, Check.OUTSIDE, (z, v) -> z.print(4, v), -1, 10, Check.LEAST, Check.GREATEST);
    C.refuses("both", Room::wet, Check.UNKNOWN, (z, v) -> z.print(5, v), -1, 10);
    C.refuses("no shower", Room::dry, Check.UNKNOWN, (z, v) -> z.print(v, 10), -1, 0);
  }

  private static void begins() {
    C.says(6, "START of a CRIER becomes a LINE: what it was");
    RainRead x = Room.wet();
    C.due("the first line", x.begin(0, 0), 1);
    C.due("it is", x.ofCrier(0, 2), 0);
    C.due("nothing hangs", x.ofLine(0, 2), 0);
    C.due("the last line", x.begin(0, 4), 0);
    C.due("it is", x.ofCrier(0, 2), 4);
    C.due("the same", x.begin(0, 4), 4);
    C.due("of the last crier", x.begin(2, 0), 3);
    C.due("of no other", x.ofCrier(1, 2), 3);
    C.due("coughs stay", x.many(2), 3);
    C.due("readings stay", x.many(4), 2);
    C.due("the only line", Check.of("s,00;p10").begin(0, 0), 0);
    C.says(6, "UNKNOWN: CRIER, LINE");
    C.refuses("crier", Room::wet, Check.UNKNOWN, (z, v) -> z.begin(v, 0), -1, 3, Check.LEAST, Check.GREATEST);
    C.refuses("line", Room::wet, Check.UNKNOWN, (z, v) -> z.begin(2, v), -1, 5, 6, Check.LEAST, Check.GREATEST);
    C.refuses("both", Room::wet, Check.UNKNOWN, (z, v) -> z.begin(3, v), -1, 5);
    C.refuses("no shower", Room::dry, Check.UNKNOWN, (z, v) -> z.begin(v, 0), -1, 0);
  }
}
