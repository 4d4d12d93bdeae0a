/** Promises 23 to 33: sheet, lose, put, cell, copy, tell, bribe, as, trace, fault, many. */
public final class SheetTest {
  private static final Check C = new Check();

  public static void main(String[] args) {
    sheets();
    puts();
    cells();
    copies();
    tellings();
    kinds();
    faults();
    many();
    C.end("SheetTest");
  }

  private static void sheets() {
    RainRead x = new RainRead();
    C.due("sheet 4", x.sheet(4, 3, 61), Check.UNKNOWN);
    C.due("sheet -1", x.sheet(-1, 0, 0), Check.UNKNOWN);
    C.due("lane 3", x.sheet(0, 3, -1), Check.OUTSIDE);
    C.due("lane -1", x.sheet(0, -1, -1), Check.OUTSIDE);
    C.due("61", x.sheet(0, 0, 61), Check.OUTSIDE);
    C.due("-1", x.sheet(0, 0, -1), Check.SIZE);
    C.due("SIZE", x.fault(), 4);
    C.due("least", x.sheet(0, 0, Check.LEAST), Check.SIZE);
    C.due("still nothing", x.lose(0), 0);
    C.due("60", x.sheet(0, 0, 60), 1);
    C.due("no fault", x.fault(), 0);
    C.due("0", x.cell(0, 59, 0), 0);
    x.put(0, 59, 7);
    C.due("refused", x.sheet(0, 0, -1), Check.SIZE);
    C.due("kept", x.cell(0, 59, 0), 7);
    C.due("anew", x.sheet(0, 2, 60), 1);
    C.due("0 again", x.cell(0, 59, 2), 0);
    C.due("empty", x.sheet(0, 1, 0), 1);
    C.due("no cell", x.put(0, 0, 1), Check.INDEX);
    C.due("it had a row", x.lose(0), 1);
    C.due("it had nothing", x.lose(0), 0);
    C.due("lose 4", x.lose(4), Check.UNKNOWN);
    C.due("lose -1", x.lose(-1), Check.UNKNOWN);
  }

  private static void puts() {
    RainRead x = new RainRead();
    C.due("sheet 4", x.put(4, -1, 0), Check.UNKNOWN);
    C.due("sheet -1", x.put(-1, 0, 0), Check.UNKNOWN);
    C.due("nothing", x.put(0, -1, 0), Check.NULL);
    C.due("NULL", x.fault(), 1);
    int[][] cut = {{0, 127, 127}, {0, 128, -128}, {0, 300, 44}, {0, -129, 127}, {1, 32767, 32767}, {1, 32768, -32768},
      {1, -70000, -4464}, {2, Check.GREATEST, Check.GREATEST}, {2, Check.LEAST, Check.LEAST}};
    for (int[] row : cut) {
      x.sheet(1, row[0], 3);
      C.due("put", x.put(1, 2, row[1]), 1);
      C.due("cut to lane " + row[0], x.cell(1, 2, row[0]), row[2]);
      C.due("no other", x.cell(1, 1, row[0]), 0);
    }
    C.due("cell 3", x.put(1, 3, 0), Check.INDEX);
    C.due("INDEX", x.fault(), 3);
    C.due("cell -1", x.put(1, -1, 0), Check.INDEX);
    C.due("put", x.put(1, 0, 0), 1);
    C.due("no fault", x.fault(), 0);
  }

  private static void cells() {
    RainRead x = new RainRead();
    lost("sheet 4", x, x.cell(4, 0, 0), 0);
    lost("sheet -1", x, x.cell(-1, 0, 3), 0);
    lost("lane 3", x, x.cell(0, 0, 3), 0);
    lost("lane -1", x, x.cell(0, 0, -1), 0);
    lost("nothing", x, x.cell(0, -1, 2), 1);
    x.sheet(0, 1, 2);
    lost("other lane", x, x.cell(0, -1, 2), 2);
    lost("cell -1", x, x.cell(0, -1, 1), 3);
    lost("cell 2", x, x.cell(0, 2, 1), 3);
    C.due("cell 1", x.cell(0, 1, 1), 0);
    C.due("no fault", x.fault(), 0);
  }

  private static void lost(String when, RainRead x, long got, int fault) {
    C.due(when, got, RainRead.LOST);
    C.due(when + ": fault", x.fault(), fault);
  }

  private static void copies() {
    RainRead x = new RainRead();
    C.due("sheet 4", x.copy(4, 0, 0, 0, 0), Check.UNKNOWN);
    C.due("other 4", x.copy(0, 0, 4, 0, 0), Check.UNKNOWN);
    C.due("other -1", x.copy(0, 0, -1, 0, 0), Check.UNKNOWN);
    x.sheet(0, 0, 5);
    C.due("other nothing", x.copy(0, -1, 1, -1, -1), Check.NULL);
    C.due("first nothing", x.copy(1, -1, 0, -1, -1), Check.NULL);
    C.due("NULL", x.fault(), 1);
    x.sheet(1, 1, 5);
    C.due("unlike", x.copy(0, -1, 1, -1, -1), Check.CAST);
    C.due("CAST", x.fault(), 2);
    x.sheet(1, 0, 3);
    int[][] beyond = {{-1, 0, 0}, {6, 0, 0}, {0, -1, 0}, {0, 4, 0}, {0, 0, -1}, {0, 0, 4}, {4, 0, 2}, {0, 2, 2},
      {5, 3, Check.GREATEST}, {0, 0, Check.LEAST}, {Check.GREATEST, 0, 1}};
    for (int[] row : beyond) {
      C.due("copy " + row[0] + " " + row[1] + " " + row[2], x.copy(0, row[0], 1, row[1], row[2]), Check.INDEX);
      C.due("INDEX", x.fault(), 3);
    }
    C.due("none, at the ends", x.copy(0, 5, 1, 3, 0), 0);
    C.due("no fault", x.fault(), 0);
    for (int i = 0; i < 5; i++) {
      x.put(0, i, i + 1);
    }
    C.due("copy", x.copy(0, 2, 1, 0, 3), 3);
    row("to another", x, 1, 3, 4, 5);
    C.due("on", x.copy(0, 0, 0, 1, 4), 4);
    row("as they were", x, 0, 1, 1, 2, 3, 4);
    C.due("back", x.copy(0, 2, 0, 0, 3), 3);
    row("as they were", x, 0, 2, 3, 4, 3, 4);
  }

  private static void row(String when, RainRead x, int sheet, int... due) {
    for (int i = 0; i < due.length; i++) {
      C.due(when + ": cell " + i, x.cell(sheet, i, 0), due[i]);
    }
  }

  private static void tellings() {
    RainRead x = Check.of("s,00,00,00;p31;m22;c12");
    told("plain", x, x.tell(0), 3, 1);
    told("mumbling", x, x.tell(1), 102, 2, 1);
    told("chanting", x, x.tell(2), 102, 3, 2, 1, 1);
    told("bribed plain", x, x.bribe(0), 1, 4);
    told("bribed mumbling", x, x.bribe(1), 2, 4);
    told("bribed chanting", x, x.bribe(2), 60, 5);
    told("no crier", x, x.tell(3), Check.UNKNOWN);
    told("no crier", x, x.tell(-1), Check.UNKNOWN);
    told("no crier", x, x.bribe(3), Check.UNKNOWN);
    told("no crier", x, x.bribe(-1), Check.UNKNOWN);
  }

  private static int trace = 0;

  private static void told(String when, RainRead x, int got, int due, int... bodies) {
    C.due(when, got, due);
    for (int body : bodies) {
      trace = 31 * trace + body;
    }
    C.due(when + ": trace", x.trace(), trace);
  }

  private static void kinds() {
    RainRead x = Check.of("s,00;p10;m10;c10");
    for (int c = 0; c < 3; c++) {
      for (int kind = 0; kind < 3; kind++) {
        boolean is = c >= kind;
        C.due("as " + c + " " + kind, x.as(c, kind), is ? 1 : Check.CAST);
        C.due("fault", x.fault(), is ? 0 : 2);
      }
    }
    C.due("no crier", x.as(3, 3), Check.UNKNOWN);
    C.due("crier -1", x.as(-1, 0), Check.UNKNOWN);
    C.due("kind 3", x.as(0, 3), Check.OUTSIDE);
    C.due("kind -1", x.as(0, -1), Check.OUTSIDE);
    C.due("no fault", x.fault(), 0);
  }

  /** Each call that names FAULTS takes the last one away by a refusal; the others leave it. */
  private static void faults() {
    RainRead x = Check.of("s,00;p10");
    for (int call = 0; call < 7; call++) {
      x.as(0, 2);
      C.due("fault", x.fault(), 2);
      refuse(x, call);
      C.due("gone by " + call, x.fault(), 0);
    }
    x.as(0, 2);
    x.lose(9);
    x.lose(3);
    x.tell(9);
    x.bribe(0);
    x.odds(9, 0, 0);
    x.many(9);
    x.cough(9, 0);
    x.wet(0);
    x.ofLine(0, 0);
    x.begin(0, 0);
    x.reading(0, 0);
    x.trace();
    C.due("left alone", x.fault(), 2);
  }

  private static void refuse(RainRead x, int call) {
    switch (call) {
      case 0: x.shower(9, 0, 0, 0); break;
      case 1: x.day(9, 0, 0, 0, 0); break;
      case 2: x.sheet(9, 0, 0); break;
      case 3: x.put(9, 0, 0); break;
      case 4: x.cell(9, 0, 0); break;
      case 5: x.copy(9, 0, 0, 0, 0); break;
      default: x.as(9, 0); break;
    }
  }

  private static void many() {
    RainRead x = Check.of(Check.SLOW + ";m35");
    x.cough(0, 0);
    x.cough(1, 5);
    x.reading(0, 0);
    int[] due = {6, 2, 2, 20, 1};
    for (int what = 0; what < due.length; what++) {
      C.due("many " + what, x.many(what), due[what]);
    }
    C.due("many 5", x.many(5), Check.OUTSIDE);
    C.due("many -1", x.many(-1), Check.OUTSIDE);
    C.due("without a shower", new RainRead().many(5), Check.OUTSIDE);
  }
}
