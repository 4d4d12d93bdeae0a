/** Terms 5 and promises 23 to 33, sentence by sentence: the edges of sheets, tellings, faults and counts. */
public final class SheetEdgeTest {
  private static final Check C = new Check();
  private static final int[] NO_SHEET = {-1, 4, Check.LEAST, Check.GREATEST};
  private static final int[] NO_LANE = {-1, 3, Check.LEAST, Check.GREATEST};
  private static final int[] NO_CRIER = {-1, 3, Check.LEAST, Check.GREATEST};

  public static void main(String[] args) {
    rows();
    cut();
    sheetsRefused();
    loses();
    puts();
    cells();
    copies();
    copiesToItself();
    copiesRefused();
    bodies();
    traceWraps();
    tellingsRefused();
    asKinds();
    traceAndFault();
    faultOfEachCall();
    many();
    C.end("SheetEdgeTest");
  }

  private static void rows() {
    C.says(0, "SHEETS 0 .. 3 have nothing (at first), or a row of 0 .. 60 numbers (0 at first) of a LANE: 0 bytes, 1 shorts, 2 ints");
    RainRead x = new RainRead();
    for (int k = 0; k < 4; k++) {
      C.due("nothing in " + k, x.lose(k), 0);
      for (int lane = 0; lane < 3; lane++) {
        for (int n : new int[] {0, 1, 59, 60}) {
          C.due("row of " + n, x.sheet(k, lane, n), 1);
          C.due("its last", x.cell(k, n - 1, lane), n == 0 ? Check.LOST : 0);
          C.due("behind its last", x.cell(k, n, lane), Check.LOST);
          C.due("an INDEX", x.fault(), 3);
        }
      }
    }
    C.says(23, "A SHEET gets a new row: 1");
    RainRead y = new RainRead();
    y.sheet(2, 0, 60);
    for (int i = 0; i < 60; i++) {
      y.put(2, i, i + 1);
    }
    C.due("a new one", y.sheet(2, 0, 60), 1);
    for (int i = 0; i < 60; i++) {
      C.due("0 at first", y.cell(2, i, 0), 0);
    }
    y.put(2, 59, 7);
    C.due("a shorter one", y.sheet(2, 0, 59), 1);
    C.due("a longer one", y.sheet(2, 2, 60), 1);
    C.due("0 at first", y.cell(2, 59, 2), 0);
    C.due("no longer bytes", y.cell(2, 59, 0), Check.LOST);
    C.due("a CAST", y.fault(), 2);
    C.due("no other sheet", y.lose(1) + y.lose(3), 0);
  }

  private static void cut() {
    C.says(0, "what comes to a cell of it is cut to its LANE");
    int[][] due = {{0, 127, 127}, {0, 128, -128}, {0, -128, -128}, {0, -129, 127}, {0, 255, -1}, {0, 256, 0},
      {0, Check.GREATEST, -1}, {0, Check.LEAST, 0}, {1, 32767, 32767}, {1, 32768, -32768}, {1, -32768, -32768},
      {1, -32769, 32767}, {1, 65535, -1}, {1, 65536, 0}, {1, Check.GREATEST, -1}, {1, Check.LEAST, 0},
      {2, 65536, 65536}, {2, Check.GREATEST, Check.GREATEST}, {2, Check.LEAST, Check.LEAST}, {2, -1, -1}};
    RainRead x = new RainRead();
    for (int[] row : due) {
      x.sheet(0, row[0], 1);
      C.due("put " + row[1], x.put(0, 0, row[1]), 1);
      C.due("lane " + row[0] + " of " + row[1], x.cell(0, 0, row[0]), row[2]);
    }
  }

  private static void sheetsRefused() {
    C.says(23, "UNKNOWN; OUTSIDE: lane, n above 60; SIZE");
    C.refusesClear("sheet", Room::wet, Check.UNKNOWN, (x, v) -> x.sheet(v, 0, 1), NO_SHEET);
    C.refusesClear("lane", Room::wet, Check.OUTSIDE, (x, v) -> x.sheet(0, v, 1), NO_LANE);
    C.refusesClear("n", Room::wet, Check.OUTSIDE, (x, v) -> x.sheet(0, 0, v), 61, 62, Check.GREATEST);
    C.refusesClear("n, for nothing", Room::wet, Check.OUTSIDE, (x, v) -> x.sheet(3, 0, v), 61, Check.GREATEST);
    C.faults("n below 0", Room::wet, 4, (x, v) -> x.sheet(0, 0, v), -1, -60, Check.LEAST);
    C.faults("n below 0, for nothing", Room::wet, 4, (x, v) -> x.sheet(3, 0, v), -1, Check.LEAST);
    C.refusesClear("sheet, lane", Room::wet, Check.UNKNOWN, (x, v) -> x.sheet(4, v, 1), NO_LANE);
    C.refusesClear("sheet, n", Room::wet, Check.UNKNOWN, (x, v) -> x.sheet(4, 0, v), -1, 61);
    C.refusesClear("lane, SIZE", Room::wet, Check.OUTSIDE, (x, v) -> x.sheet(0, v, -1), NO_LANE);
    C.refusesClear("lane, n", Room::wet, Check.OUTSIDE, (x, v) -> x.sheet(0, v, 61), NO_LANE);
  }

  private static void loses() {
    C.says(24, "A SHEET has nothing: 1; 0: it had nothing");
    for (int k = 0; k < 4; k++) {
      RainRead x = new RainRead();
      C.due("nothing yet", x.lose(k), 0);
      x.sheet(k, 0, 0);
      C.due("an empty row", x.lose(k), 1);
      C.due("nothing more", x.lose(k), 0);
      x.sheet(k, 2, 60);
      C.due("a row of 60", x.lose(k), 1);
      C.due("it is nothing", x.put(k, 0, 0), Check.NULL);
    }
    RainRead x = Room.wet();
    C.due("the text's sheet", x.lose(0), 1);
    C.due("the shower stays", x.many(3), 20);
    C.due("fault is as it was", x.fault(), 2);
    C.due("the others stay", x.lose(1) * 10 + x.lose(2), 11);
    C.says(24, "UNKNOWN");
    C.refuses("sheet", Room::wet, Check.UNKNOWN, (y, v) -> y.lose(v), NO_SHEET);
  }

  private static void puts() {
    C.says(25, "Cell i of a SHEET becomes v: 1");
    for (int k = 0; k < 4; k++) {
      RainRead x = new RainRead();
      x.sheet(k, 1, 60);
      C.due("the first", x.put(k, 0, 7), 1);
      C.due("the last", x.put(k, 59, 8), 1);
      C.due("it is", x.cell(k, 0, 1), 7);
      C.due("it is", x.cell(k, 59, 1), 8);
      C.due("no other", x.cell(k, 1, 1) + x.cell(k, 58, 1), 0);
      C.due("again", x.put(k, 0, 0), 1);
      C.due("it is", x.cell(k, 0, 1), 0);
    }
    RainRead text = Room.wet();
    text.put(0, 2, '9');
    C.due("the shower stays as it was", text.ofLine(0, 0), 5);
    C.says(25, "UNKNOWN; NULL; INDEX");
    C.refusesClear("sheet", Room::wet, Check.UNKNOWN, (x, v) -> x.put(v, 0, 1), NO_SHEET);
    C.faults("nothing", Room::wet, 1, (x, v) -> x.put(3, v, 1), 0, 59);
    C.faults("i", Room::wet, 3, (x, v) -> x.put(0, v, 1), -1, 28, 29, 59, 60, Check.LEAST, Check.GREATEST);
    C.refusesClear("sheet, i", Room::wet, Check.UNKNOWN, (x, v) -> x.put(4, v, 1), -1, 60);
    C.faults("nothing, i", Room::wet, 1, (x, v) -> x.put(3, v, 1), -1, 60, Check.LEAST, Check.GREATEST);
    RainRead empty = new RainRead();
    empty.sheet(0, 0, 0);
    C.due("an empty row", empty.put(0, 0, 1), Check.INDEX);
  }

  private static void cells() {
    C.says(26, "Cell i of what a SHEET has, taken as a row of a LANE");
    for (int lane = 0; lane < 3; lane++) {
      RainRead x = new RainRead();
      x.sheet(3, lane, 60);
      x.put(3, 0, 11);
      x.put(3, 59, -12);
      C.due("the first", x.cell(3, 0, lane), 11);
      C.due("the last", x.cell(3, 59, lane), -12);
      C.due("no fault", x.fault(), 0);
    }
    C.says(26, "LOST: UNKNOWN, OUTSIDE: lane; FAULTS CAST (nothing is no CAST), NULL, INDEX");
    C.refusesClear("sheet", Room::wet, Check.LOST, (x, v) -> x.cell(v, 0, 0), NO_SHEET);
    C.refusesClear("lane", Room::wet, Check.LOST, (x, v) -> x.cell(0, 0, v), NO_LANE);
    C.refusesClear("lane, of nothing", Room::wet, Check.LOST, (x, v) -> x.cell(3, 0, v), NO_LANE);
    C.refusesClear("sheet, i", Room::wet, Check.LOST, (x, v) -> x.cell(v, -1, 0), NO_SHEET);
    C.refusesClear("lane, i", Room::wet, Check.LOST, (x, v) -> x.cell(0, -1, v), NO_LANE);
    C.refused("bytes", Room::wet, Check.LOST, 2, (x, v) -> x.cell(0, 0, v), 1, 2);
    C.refused("shorts", Room::wet, Check.LOST, 2, (x, v) -> x.cell(1, 0, v), 0, 2);
    C.refused("ints", Room::wet, Check.LOST, 2, (x, v) -> x.cell(2, 0, v), 0, 1);
    C.refused("CAST, INDEX", Room::wet, Check.LOST, 2, (x, v) -> x.cell(0, v, 1), -1, 28);
    C.refused("nothing", Room::wet, Check.LOST, 1, (x, v) -> x.cell(3, 0, v), 0, 1, 2);
    C.refused("nothing, INDEX", Room::wet, Check.LOST, 1, (x, v) -> x.cell(3, v, 0), -1, 60);
    C.refused("i", Room::wet, Check.LOST, 3, (x, v) -> x.cell(0, v, 0), -1, 28, 60, Check.LEAST, Check.GREATEST);
  }

  private static void has(RainRead x, int sheet, int lane, int... due) {
    for (int i = 0; i < due.length; i++) {
      C.due("cell " + i + " of " + sheet, x.cell(sheet, i, lane), due[i]);
    }
  }

  private static RainRead oneToFive(int lane) {
    RainRead x = new RainRead();
    x.sheet(0, lane, 5);
    x.sheet(1, lane, 5);
    for (int i = 0; i < 5; i++) {
      x.put(0, i, i + 1);
    }
    return x;
  }

  private static void copies() {
    C.says(27, "n cells of a SHEET from i on go to another one (perhaps the same) from j on, as they were: n");
    for (int lane = 0; lane < 3; lane++) {
      RainRead x = oneToFive(lane);
      C.due("none", x.copy(0, 5, 1, 5, 0), 0);
      C.due("none", x.copy(0, 0, 1, 0, 0), 0);
      has(x, 1, lane, 0, 0, 0, 0, 0);
      C.due("one, the last to the first", x.copy(0, 4, 1, 0, 1), 1);
      has(x, 1, lane, 5, 0, 0, 0, 0);
      C.due("two to the end", x.copy(0, 0, 1, 3, 2), 2);
      has(x, 1, lane, 5, 0, 0, 1, 2);
      C.due("all", x.copy(0, 0, 1, 0, 5), 5);
      has(x, 1, lane, 1, 2, 3, 4, 5);
      has(x, 0, lane, 1, 2, 3, 4, 5);
      C.due("no fault", x.fault(), 0);
    }
    RainRead longest = new RainRead();
    longest.sheet(2, 2, 60);
    longest.sheet(3, 2, 60);
    longest.put(2, 0, Check.LEAST);
    longest.put(2, 59, Check.GREATEST);
    C.due("sixty", longest.copy(2, 0, 3, 0, 60), 60);
    C.due("the first", longest.cell(3, 0, 2), Check.LEAST);
    C.due("the last", longest.cell(3, 59, 2), Check.GREATEST);
  }

  private static void copiesToItself() {
    C.says(27, "n cells of a SHEET from i on go to another one (perhaps the same) from j on, as they were: n");
    RainRead on = oneToFive(0);
    C.due("one place on", on.copy(0, 0, 0, 1, 4), 4);
    has(on, 0, 0, 1, 1, 2, 3, 4);
    RainRead back = oneToFive(1);
    C.due("one place back", back.copy(0, 1, 0, 0, 4), 4);
    has(back, 0, 1, 2, 3, 4, 5, 5);
    RainRead same = oneToFive(2);
    C.due("to where they are", same.copy(0, 0, 0, 0, 5), 5);
    has(same, 0, 2, 1, 2, 3, 4, 5);
    RainRead two = oneToFive(0);
    C.due("two places on", two.copy(0, 0, 0, 2, 3), 3);
    has(two, 0, 0, 1, 2, 1, 2, 3);
  }

  private static void copiesRefused() {
    C.says(27, "UNKNOWN; FAULTS NULL (the first, the other), CAST (unlike LANES)");
    C.refusesClear("the first", Room::wet, Check.UNKNOWN, (x, v) -> x.copy(v, 0, 0, 0, 1), NO_SHEET);
    C.refusesClear("the other", Room::wet, Check.UNKNOWN, (x, v) -> x.copy(0, 0, v, 0, 1), NO_SHEET);
    C.refusesClear("the other, of nothing", Room::wet, Check.UNKNOWN, (x, v) -> x.copy(3, 0, v, 0, 1), NO_SHEET);
    C.refusesClear("the first, to nothing", Room::wet, Check.UNKNOWN, (x, v) -> x.copy(v, 0, 3, 0, 1), NO_SHEET);
    C.refusesClear("the first, INDEX", Room::wet, Check.UNKNOWN, (x, v) -> x.copy(v, -1, 0, -1, -1), NO_SHEET);
    C.faults("nothing to a row", Room::wet, 1, (x, v) -> x.copy(3, 0, v, 0, 0), 0, 1, 2);
    C.faults("a row to nothing", Room::wet, 1, (x, v) -> x.copy(v, 0, 3, 0, 0), 0, 1, 2);
    C.faults("nothing to nothing", Room::wet, 1, (x, v) -> x.copy(3, v, 3, 0, 0), 0, -1);
    C.faults("nothing, INDEX", Room::wet, 1, (x, v) -> x.copy(3, v, 0, v, v), -1, 61);
    C.faults("bytes", Room::wet, 2, (x, v) -> x.copy(0, 0, v, 0, 1), 1, 2);
    C.faults("shorts", Room::wet, 2, (x, v) -> x.copy(1, 0, v, 0, 1), 0, 2);
    C.faults("ints", Room::wet, 2, (x, v) -> x.copy(2, 0, v, 0, 1), 0, 1);
    C.faults("none of another lane", Room::wet, 2, (x, v) -> x.copy(2, 0, v, 0, 0), 0, 1);
    C.faults("CAST, INDEX", Room::wet, 2, (x, v) -> x.copy(0, v, 1, v, v), -1, 61);
    C.says(27, "INDEX: i, j, n below 0 or beyond");
    C.faults("i", Room::wet, 3, (x, v) -> x.copy(0, v, 0, 0, 1), -1, 28, 29, Check.LEAST, Check.GREATEST);
    C.faults("j", Room::wet, 3, (x, v) -> x.copy(0, 0, 0, v, 1), -1, 28, 29, Check.LEAST, Check.GREATEST);
    C.faults("n", Room::wet, 3, (x, v) -> x.copy(0, 0, 0, 0, v), -1, 29, Check.LEAST, Check.GREATEST);
    C.faults("i and n", Room::wet, 3, (x, v) -> x.copy(0, v, 0, 0, 29 - v), 1, 2, 28);
    C.faults("j and n", Room::wet, 3, (x, v) -> x.copy(0, 0, 0, v, 29 - v), 1, 2, 28);
    C.faults("i and n that wrap", Room::wet, 3, (x, v) -> x.copy(0, v, 0, 0, Check.GREATEST), 1, 28, Check.GREATEST);
    C.faults("j and n that wrap", Room::wet, 3, (x, v) -> x.copy(0, 0, 0, v, Check.GREATEST), 1, 28, Check.GREATEST);
    RainRead x = oneToFive(0);
    x.sheet(1, 0, 3);
    C.due("more than the other has", x.copy(0, 0, 1, 0, 4), Check.INDEX);
    C.due("more than the first has", x.copy(1, 0, 0, 0, 4), Check.INDEX);
    has(x, 0, 0, 1, 2, 3, 4, 5);
    has(x, 1, 0, 0, 0, 0);
    C.due("as many as the other has", x.copy(0, 2, 1, 0, 3), 3);
  }

  private static void told(RainRead x, long got, int due, int trace) {
    C.due("it tells", got, due);
    C.due("trace", x.trace(), trace);
  }

  private static void bodies() {
    C.says(0, "PLAIN (1): PACE");
    RainRead plain = Check.of("s,00,00;p10;p21;p30");
    told(plain, plain.tell(0), 1, 1);
    told(plain, plain.tell(1), 2, 32);
    told(plain, plain.tell(2), 3, 993);
    C.says(0, "MUMBLING (2): what PLAIN's gives, and 100");
    RainRead mumbling = Check.of("s,00,00;m10;m21;m30");
    told(mumbling, mumbling.tell(0), 101, 63);
    told(mumbling, mumbling.tell(2), 103, 60606);
    C.says(0, "CHANTING (3): what MUMBLING's gives, and what PLAIN's gives (MUMBLING's left out)");
    RainRead chanting = Check.of("s,00,00;c10;c21;c30");
    told(chanting, chanting.tell(0), 102, 91327);
    told(chanting, chanting.tell(2), 106, -1556852226);
    C.says(0, "BRIBED by a lent body (4): START; CHANTING ones have their own (5): 60");
    RainRead bribed = Check.of("s,00,00,00,00,00,00;p15;m10;c14");
    told(bribed, bribed.bribe(0), 5, 4);
    told(bribed, bribed.bribe(1), 0, 128);
    told(bribed, bribed.bribe(2), 60, 3973);
    bribed.begin(0, 2);
    told(bribed, bribed.bribe(0), 2, 123167);
  }

  private static void traceWraps() {
    C.says(0, "(an int that wraps, 0 at first, becomes 31 times it and the number) as they begin");
    RainRead x = Check.of("s,00;p10;m10;c10");
    int[] due = {1, 32, 993, 30784, 954305, 29583456, 917087137, -1635069824};
    C.due("at first", x.trace(), 0);
    for (int trace : due) {
      told(x, x.tell(0), 1, trace);
    }
    RainRead y = Check.of("s,00;p10;m10;c10");
    y.tell(2);
    y.tell(2);
    told(y, y.tell(2), 102, 1822459837);
    C.due("a text leaves it", y.shower(0, 0, 0, 16) * 10000000000L + y.trace(), 31822459837L);
  }

  private static void tellingsRefused() {
    C.says(0, "TELLING of CRIERS by bodies that leave their number in TRACE");
    RainRead x = Room.wet();
    told(x, x.tell(1), 101, (1 * 31 + 2) * 31 + 1);
    C.says(28, "TELLING of a CRIER");
    C.due("the first", x.tell(0), 1);
    C.due("the last", x.tell(2), 104);
    C.due("fault is as it was", x.fault(), 2);
    C.says(28, "UNKNOWN");
    C.refuses("tell", Room::wet, Check.UNKNOWN, (y, v) -> y.tell(v), NO_CRIER);
    C.refuses("tell, no shower", Room::dry, Check.UNKNOWN, (y, v) -> y.tell(v), 0);
    C.says(29, "How he is BRIBED");
    C.due("the first", x.bribe(0), 1);
    C.due("the second", x.bribe(1), 3);
    C.due("the last", x.bribe(2), 60);
    C.due("fault is as it was", x.fault(), 2);
    C.says(29, "UNKNOWN");
    C.refuses("bribe", Room::wet, Check.UNKNOWN, (y, v) -> y.bribe(v), NO_CRIER);
    C.refuses("bribe, no shower", Room::dry, Check.UNKNOWN, (y, v) -> y.bribe(v), 0);
    C.due("the second of one", Check.of("s,00,00;p10").tell(1), Check.UNKNOWN);
    C.due("the second of one", Check.of("s,00,00;p10").bribe(1), Check.UNKNOWN);
  }

  private static void asKinds() {
    C.says(30, "A CRIER, taken as one of a kind: 1");
    RainRead x = Room.wet();
    for (int c = 0; c < 3; c++) {
      for (int kind = 0; kind <= c; kind++) {
        C.due(c + " as " + kind, x.as(c, kind), 1);
        C.due("no fault", x.fault(), 0);
      }
    }
    C.says(30, "UNKNOWN; OUTSIDE; CAST: he is none");
    C.refusesClear("crier", Room::wet, Check.UNKNOWN, (y, v) -> y.as(v, 0), NO_CRIER);
    C.refusesClear("kind", Room::wet, Check.OUTSIDE, (y, v) -> y.as(2, v), -1, 3, Check.LEAST, Check.GREATEST);
    C.refusesClear("crier, kind", Room::wet, Check.UNKNOWN, (y, v) -> y.as(3, v), -1, 3);
    C.refusesClear("no shower", Room::dry, Check.UNKNOWN, (y, v) -> y.as(v, 0), 0, -1);
    C.refusesClear("no shower, kind", Room::dry, Check.UNKNOWN, (y, v) -> y.as(0, v), -1, 3);
    C.faults("a plain one", Room::wet, 2, (y, v) -> y.as(0, v), 1, 2);
    C.faults("a mumbling one", Room::wet, 2, (y, v) -> y.as(1, v), 2);
  }

  private static void traceAndFault() {
    C.says(31, "TRACE");
    C.due("at first", new RainRead().trace(), 0);
    RainRead x = Room.wet();
    C.due("of one that is told", x.trace(), 1);
    C.due("asked again", x.trace(), 1);
    C.says(32, "(0 ahead of any)");
    C.due("at first", new RainRead().fault(), 0);
    C.says(32, "The FAULT of the latest call that names one");
    RainRead y = new RainRead();
    y.put(0, 0, 0);
    C.due("NULL", y.fault(), 1);
    C.due("asked again", y.fault(), 1);
    y.sheet(0, 0, -1);
    C.due("SIZE", y.fault(), 4);
    y.sheet(0, 0, 1);
    y.put(0, 1, 0);
    C.due("INDEX", y.fault(), 3);
    y.cell(0, 1, 1);
    C.due("CAST", y.fault(), 2);
    y.lose(0);
    y.many(0);
    y.trace();
    y.back(0);
    y.odds(0, 0, 0);
    y.wet(0);
    C.due("calls that name none leave it", y.fault(), 2);
  }

  private static void faultOfEachCall() {
    C.says(32, "0: it came to none, or was refused");
    Check.Call[] fine = {(x, v) -> x.shower(0, 0, 0, 28), (x, v) -> x.day(1, 1, 0, 3, 0), (x, v) -> x.sheet(3, 0, 0),
      (x, v) -> x.put(0, 0, 's'), (x, v) -> x.cell(0, 0, 0), (x, v) -> x.copy(0, 0, 0, 0, 28), (x, v) -> x.as(2, 2)};
    Check.Call[] refused = {(x, v) -> x.shower(0, 3, 0, 28), (x, v) -> x.day(2, 2, 0, 1, 0), (x, v) -> x.sheet(3, 0, 61),
      (x, v) -> x.put(4, 0, 's'), (x, v) -> x.cell(0, 0, 3), (x, v) -> x.copy(0, 0, 4, 0, 28), (x, v) -> x.as(2, 3)};
    for (int k = 0; k < fine.length; k++) {
      RainRead x = Room.wet();
      C.due("a fault ahead of call " + k, x.fault(), 2);
      C.due("call " + k + " is not refused", fine[k].of(x, 0) < 0 ? 1 : 0, 0);
      C.due("fault after call " + k, x.fault(), 0);
      x.as(0, 2);
      C.due("call " + k + " is refused", refused[k].of(x, 0) < 0 ? 1 : 0, 1);
      C.due("fault after call " + k, x.fault(), 0);
    }
    RainRead x = Room.wet();
    C.due("a text that is not taken", x.shower(0, 0, 0, 3), -103);
    C.due("came to none", x.fault(), 0);
    x.as(0, 2);
    x.sheet(3, 0, 2);
    x.put(3, 1, 5);
    x.as(0, 2);
    C.due("a first wrong", x.day(3, 0, 0, 1, 0), -100);
    C.due("came to none", x.fault(), 0);
  }

  private static void many() {
    C.says(33, "How many: 0 LINES, 1 CRIERS, 2 COUGHS (FIELDS and HOURS), 3 WET of all FIELDS together, 4 READINGS");
    int[] due = {5, 3, 3, 20, 2};
    RainRead x = Room.wet();
    for (int what = 0; what < 5; what++) {
      C.due("many " + what, x.many(what), due[what]);
    }
    int[] most = {6, 3, 24, 0, 8};
    RainRead y = Check.of("s,93,93,93,93,93,93;c10;c15;c12");
    for (int k = 0; k < 24; k++) {
      y.cough(k / 6, k % 6);
    }
    for (int k = 0; k < 8; k++) {
      y.reading(0, 0);
    }
    for (int what = 0; what < 5; what++) {
      C.due("the most of " + what, y.many(what), most[what]);
    }
    C.due("the wettest", Check.of("s,93,93,93,93,93,93;c10").many(3), 102);
    C.says(33, "(0 all without a SHOWER)");
    RainRead dry = Room.dry();
    for (int what = 0; what < 5; what++) {
      C.due("without a shower " + what, dry.many(what), 0);
    }
    C.says(33, "OUTSIDE");
    C.refuses("what", Room::wet, Check.OUTSIDE, (z, v) -> z.many(v), -1, 5, Check.LEAST, Check.GREATEST);
    C.refuses("no shower", Room::dry, Check.OUTSIDE, (z, v) -> z.many(v), -1, 5, Check.LEAST, Check.GREATEST);
  }
}
