/** Promises 1 to 6: a new object, shower, ofLine, ofCrier, print, begin. */
public final class ShowerTest {
  private static final Check C = new Check();

  public static void main(String[] args) {
    newObject();
    textsTaken();
    firstFaults();
    showerRefused();
    showerMakesAllAnew();
    lines();
    criers();
    printed();
    begun();
    C.end("ShowerTest");
  }

  private static void newObject() {
    RainRead x = new RainRead();
    for (int what = 0; what <= 4; what++) {
      C.due("new many " + what, x.many(what), 0);
    }
    for (int k = 0; k < 4; k++) {
      C.due("new put " + k, x.put(k, 0, 0), Check.NULL);
      C.due("new lose " + k, x.lose(k), 0);
    }
    RainRead y = new RainRead();
    C.due("new fault", y.fault(), 0);
    C.due("new trace", y.trace(), 0);
    C.due("new ofLine", y.ofLine(0, 0), Check.UNKNOWN);
    C.due("new ofCrier", y.ofCrier(0, 0), Check.UNKNOWN);
    C.due("new print", y.print(0, 0), Check.UNKNOWN);
    C.due("new begin", y.begin(0, 0), Check.UNKNOWN);
    C.due("new strayed", y.strayed(0, 0), Check.UNKNOWN);
    C.due("new kinds", y.kinds(0), Check.UNKNOWN);
    C.due("new tell", y.tell(0), Check.UNKNOWN);
    C.due("new back", y.back(0), 0);
    C.due("new back 1", y.back(1), Check.OUTSIDE);
    C.due("new odds", y.odds(0, 0, 0), RainRead.LOST);
  }

  private static void textsTaken() {
    RainRead x = new RainRead();
    C.due("one crier", Check.take(x, "s,00;p10"), 1);
    C.due("two criers", Check.take(x, "s,93,00;m31;c20"), 2);
    C.due("most of all", Check.take(x, "s,00,11,22,33,40,51;p15;m24;c33"), 3);
    C.due("its lines", x.many(0), 6);
    C.due("its criers", x.many(1), 3);
    for (int lane = 0; lane < 3; lane++) {
      Check.write(x, 1, lane, "xs,71;c10y");
      C.due("from 1 on, lane " + lane, x.shower(1, lane, 1, 8), 1);
      C.due("drops", x.ofLine(0, 0), 7);
      C.due("field", x.ofLine(0, 1), 1);
      C.due("kind", x.ofCrier(0, 0), 2);
    }
  }

  private static void firstFaults() {
    fault("", 0);
    fault("x", 0);
    fault("s", 1);
    fault("s;", 1);
    fault("s,", 2);
    fault("s,:", 2);
    fault("s,/", 2);
    fault("s,9", 3);
    fault("s,94", 3);
    fault("s,93", 4);
    fault("s,93,", 5);
    fault("s,93p", 4);
    fault("s,93;", 5);
    fault("s,93;q", 5);
    fault("s,93;p", 6);
    fault("s,93;p0", 6);
    fault("s,93;p4", 6);
    fault("s,93;p3", 7);
    fault("s,93;p31", 7);
    fault("s,93,00;p12", 10);
    fault("s,93;p30,", 8);
    fault("s,93;p30s", 8);
    fault("s,93;p30;", 9);
    fault("s,93;p30;p10;p10;p10", 16);
    fault("s,93;p30;p10;p10,", 16);
    fault("s,00,00,00,00,00,00", 19);
    fault("s,00,00,00,00,00,00,", 19);
    fault("s,00,00,00,00,00,00,00;p10", 19);
    fault("s,00,00,00,00,00,00;p16", 22);
  }

  private static void fault(String text, int place) {
    RainRead x = Check.of(Check.SLOW);
    x.cough(0, 0);
    x.reading(0, 0);
    C.due("fault of " + text, Check.take(x, text), -100 - place);
    C.due("no FAULT of " + text, x.fault(), 0);
    C.due("kept after " + text, x.many(0) * 100 + x.many(2) * 10 + x.many(4), 611);
  }

  private static void showerRefused() {
    RainRead x = new RainRead();
    C.due("sheet 4", x.shower(4, 3, -1, -1), Check.UNKNOWN);
    C.due("sheet -1", x.shower(-1, 0, 0, 0), Check.UNKNOWN);
    C.due("lane 3", x.shower(0, 3, -1, -1), Check.OUTSIDE);
    C.due("lane -1", x.shower(0, -1, 0, 0), Check.OUTSIDE);
    C.due("nothing", x.shower(0, 0, -1, -1), Check.NULL);
    C.due("nothing of any lane", x.shower(0, 2, 0, 0), Check.NULL);
    C.due("NULL", x.fault(), 1);
    x.sheet(0, 1, 5);
    C.due("other lane", x.shower(0, 0, -1, -1), Check.CAST);
    C.due("CAST", x.fault(), 2);
    C.due("n below 0", x.shower(0, 1, -1, -1), Check.SIZE);
    C.due("SIZE", x.fault(), 4);
    C.due("i below 0", x.shower(0, 1, -1, 0), Check.INDEX);
    C.due("INDEX", x.fault(), 3);
    C.due("i at the end", x.shower(0, 1, 5, 0), -100);
    C.due("fault gone", x.fault(), 0);
    C.due("i beyond the end", x.shower(0, 1, 6, 0), Check.INDEX);
    C.due("n beyond", x.shower(0, 1, 3, 3), Check.INDEX);
    C.due("both wrap", x.shower(0, 1, 5, Check.GREATEST), Check.INDEX);
    C.due("i greatest", x.shower(0, 1, Check.GREATEST, Check.GREATEST), Check.INDEX);
    C.due("n least", x.shower(0, 1, 0, Check.LEAST), Check.SIZE);
    x.shower(0, 0, 0, 0);
    C.due("refused", x.shower(9, 0, 0, 0), Check.UNKNOWN);
    C.due("fault after a refusal", x.fault(), 0);
  }

  private static void showerMakesAllAnew() {
    RainRead x = Check.of(Check.SLOW);
    x.cough(0, 0);
    x.cough(1, 5);
    x.reading(0, 1);
    x.tell(0);
    Check.take(x, "s,50;p10");
    C.due("coughs", x.many(2), 0);
    C.due("readings", x.many(4), 0);
    C.due("lines", x.many(0), 1);
    C.due("wet", x.wet(0), 5);
    C.due("no second line", x.ofLine(1, 0), Check.UNKNOWN);
    C.due("trace is kept", x.trace(), 1);
    C.due("the sheet is kept", x.cell(0, 0, 0), 's');
  }

  private static void lines() {
    RainRead x = Check.of("s,50,31,72,40,93;p20;m11;c32");
    int[][] due = {{5, 0, 0, 0, 5}, {3, 1, 0, Check.NONE, 0}, {7, 2, 0, 2, 13}, {4, 0, 0, 2, 7}, {9, 3, 0, 2, 17}};
    for (int l = 0; l < due.length; l++) {
      for (int what = 0; what < 5; what++) {
        C.due("ofLine " + l + " " + what, x.ofLine(l, what), due[l][what]);
      }
    }
    C.due("no line", x.ofLine(5, 9), Check.UNKNOWN);
    C.due("line -1", x.ofLine(-1, 0), Check.UNKNOWN);
    C.due("what 5", x.ofLine(0, 5), Check.OUTSIDE);
    C.due("what -1", x.ofLine(0, -1), Check.OUTSIDE);

    RainRead hung = Check.of("s,50,31;p11");
    C.due("hangs: hour", hung.ofLine(0, 2), Check.NONE);
    C.due("hangs: crier", hung.ofLine(0, 3), Check.NONE);
    C.due("hangs: falls", hung.ofLine(0, 4), 0);

    RainRead drops = Check.of("s,00,10,00,10;m10;c12");
    C.due("mumbled 0", drops.ofLine(0, 4), 0);
    C.due("mumbled 1", drops.ofLine(1, 4), 0);
    C.due("chanted 0", drops.ofLine(2, 4), 0);
    C.due("chanted 1", drops.ofLine(3, 4), 1);
    C.due("falls all the same", drops.ofLine(0, 3), 0);

    RainRead three = Check.of("s,50,50,50;p10;p10;p11");
    C.due("mud of the first two", three.ofLine(0, 3), Check.NONE);
    C.due("the least hour wins over two", three.ofLine(1, 3), 2);
    C.due("at hour", three.ofLine(1, 2), 0);
    C.due("and again", three.ofLine(2, 3), 2);
    C.due("at hour", three.ofLine(2, 2), 1);
  }

  private static void criers() {
    RainRead x = Check.of("s,50,31,72,40,93;p20;m11;c32");
    int[][] due = {{0, 2, 0, 1, 2}, {1, 1, 1, 0, 3}, {2, 3, 2, 28, 0}};
    for (int c = 0; c < due.length; c++) {
      for (int what = 0; what < 5; what++) {
        C.due("ofCrier " + c + " " + what, x.ofCrier(c, what), due[c][what]);
      }
    }
    C.due("no crier", x.ofCrier(3, 9), Check.UNKNOWN);
    C.due("crier -1", x.ofCrier(-1, 0), Check.UNKNOWN);
    C.due("what 5", x.ofCrier(0, 5), Check.OUTSIDE);
    C.due("what -1", x.ofCrier(0, -1), Check.OUTSIDE);
    RainRead slow = Check.of(Check.SLOW);
    C.due("all lines", slow.ofCrier(0, 3), 63);
    C.due("last hour", slow.ofCrier(0, 4), 5);
  }

  private static void printed() {
    RainRead x = Check.of("s,50,31;m10");
    C.due("print", x.print(0, 9), 5);
    C.due("printed", x.ofLine(0, 0), 9);
    C.due("falls", x.wet(0), 8);
    C.due("again", x.print(0, 0), 9);
    C.due("falls", x.wet(0), 0);
    C.due("no line", x.print(2, 10), Check.UNKNOWN);
    C.due("line -1", x.print(-1, 0), Check.UNKNOWN);
    C.due("10", x.print(1, 10), Check.OUTSIDE);
    C.due("-1", x.print(1, -1), Check.OUTSIDE);
    C.due("as it was", x.ofLine(1, 0), 3);
  }

  private static void begun() {
    RainRead x = Check.of("s,50,31;m10");
    C.due("begin", x.begin(0, 1), 0);
    C.due("begun", x.ofCrier(0, 2), 1);
    C.due("hangs", x.ofLine(0, 2), Check.NONE);
    C.due("falls sooner", x.ofLine(1, 2), 0);
    C.due("no crier", x.begin(1, 0), Check.UNKNOWN);
    C.due("crier -1", x.begin(-1, 0), Check.UNKNOWN);
    C.due("no line", x.begin(0, 2), Check.UNKNOWN);
    C.due("line -1", x.begin(0, -1), Check.UNKNOWN);
    C.due("back", x.begin(0, 0), 1);
  }
}
