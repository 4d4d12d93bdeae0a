/** Promises 11 to 16: whole, most, strayed, saved, misprint, rests. */
public final class BetterTest {
  private static final Check C = new Check();

  public static void main(String[] args) {
    whole();
    most();
    strayed();
    saved();
    misprint();
    rests();
    C.end("BetterTest");
  }

  private static void whole() {
    RainRead x = Check.of("s,50,31;p10;m10");
    C.due("whole", x.whole(-1), 2);
    C.due("whole 0", x.whole(0), 0);
    C.due("whole 1", x.whole(1), 1);
    C.due("whole: no crier 2", x.whole(2), Check.NONE);
    C.due("whole 3", x.whole(3), Check.OUTSIDE);
    C.due("whole -2", x.whole(-2), Check.OUTSIDE);
    C.due("starts are kept", x.ofCrier(1, 2), 0);
    RainRead one = Check.of("s,50,31,72;c12");
    C.due("one crier", one.whole(-1), 1);
    C.due("from 0 on", one.whole(0), 0);
    RainRead mud = Check.of("s,50;p10;m20");
    C.due("none: how many", mud.whole(-1), 0);
    C.due("none", mud.whole(0), Check.NONE);
    C.due("none", mud.whole(1), Check.NONE);
    C.due("no such", mud.whole(2), Check.NONE);
    RainRead none = new RainRead();
    C.due("no shower", none.whole(-1), Check.STATE);
    C.due("no shower, outside", none.whole(3), Check.OUTSIDE);
  }

  private static void most() {
    RainRead x = Check.of("s,50,31;p10;m10");
    C.due("most", x.most(-1), 7);
    C.due("most 0", x.most(0), 0);
    C.due("most 1", x.most(1), 1);
    C.due("most: no crier 2", x.most(2), Check.NONE);
    C.due("most 3", x.most(3), Check.OUTSIDE);
    C.due("most -2", x.most(-2), Check.OUTSIDE);
    x.cough(0, 0);
    x.cough(1, 0);
    C.due("with coughs", x.most(-1), 3);
    C.due("with coughs 0", x.most(0), 1);
    C.due("with coughs 1", x.most(1), 0);
    C.due("starts are kept", x.ofCrier(0, 2), 0);
    RainRead mud = Check.of("s,50;p10;m20");
    C.due("all mud", mud.most(-1), 0);
    C.due("all mud 0", mud.most(0), 0);
    C.due("all mud 1", mud.most(1), 0);
    C.due("all mud 2", mud.most(2), Check.NONE);
    RainRead none = new RainRead();
    C.due("no shower", none.most(-1), Check.STATE);
    C.due("no shower, outside", none.most(-2), Check.OUTSIDE);
  }

  private static void strayed() {
    RainRead x = Check.of("s,50,31,02;p10;c22");
    C.due("strayed 0, lines", x.strayed(0, 0), 0);
    C.due("strayed 0, fields", x.strayed(0, 1), 0);
    C.due("strayed 1, lines", x.strayed(1, 0), 6);
    C.due("strayed 1, fields", x.strayed(1, 1), 2);
    x.cough(1, 0);
    C.due("coughs turn some of it", x.strayed(1, 1), 0);
    x.cough(1, 1);
    C.due("coughs turn all of it", x.strayed(1, 1), 4);
    C.due("start is kept", x.ofCrier(1, 2), 2);
    C.due("no crier", x.strayed(2, 2), Check.UNKNOWN);
    C.due("crier -1", x.strayed(-1, 0), Check.UNKNOWN);
    C.due("what 2", x.strayed(0, 2), Check.OUTSIDE);
    C.due("what -1", x.strayed(0, -1), Check.OUTSIDE);
    RainRead one = Check.of("s,53;p10");
    C.due("one line", one.strayed(0, 0), 1);
    C.due("its field", one.strayed(0, 1), 8);
    RainRead drop = Check.of("s,10;p10");
    C.due("one drop is wet", drop.strayed(0, 1), 1);
    drop.print(0, 0);
    C.due("no drop falls", drop.strayed(0, 0), 1);
    C.due("and wets nothing", drop.strayed(0, 1), 0);
  }

  private static void saved() {
    RainRead x = Check.of(Check.SLOW);
    x.cough(1, 0);
    x.cough(2, 1);
    int[][] due = {{1, 6, 0}, {1, 5, 1}, {1, 1, 1}, {1, 0, 2}, {3, 8, 0}, {3, 6, 1}, {3, 0, 4},
      {8, 4, 0}, {8, 3, 1}, {0, 0, 0}, {15, 0, 6}, {15, 99, 0}};
    for (int[] row : due) {
      C.due("saved " + row[0] + " " + row[1], x.saved(row[0], row[1]), row[2]);
    }
    C.due("coughs are kept", x.many(2), 2);
    C.due("set 16", x.saved(16, 0), Check.OUTSIDE);
    C.due("set -1", x.saved(-1, 0), Check.OUTSIDE);
    C.due("v 100", x.saved(0, 100), Check.OUTSIDE);
    C.due("v -1", x.saved(0, -1), Check.OUTSIDE);
    RainRead none = new RainRead();
    C.due("no shower", none.saved(15, 99), Check.STATE);
    C.due("no shower, outside", none.saved(16, 99), Check.OUTSIDE);
  }

  private static void misprint() {
    RainRead x = Check.of(Check.SLOW);
    prints("it has", x, 2, 3, 0, Check.NONE);
    prints("by 2", x, 2, 5, 2, 2);
    prints("by 6", x, 2, 9, 6, 2);
    prints("by none", x, 2, 10, Check.NONE, Check.NONE);
    prints("the first", x, 0, 7, 1, 0);
    prints("the first", x, 0, 10, 4, 0);
    prints("the only", x, 0, 14, 8, 0);
    prints("too much", x, 0, 15, Check.NONE, Check.NONE);
    prints("at all", x, 0, 99, Check.NONE, Check.NONE);
    x.cough(0, 4);
    prints("turned", x, 1, 14, 1, 1);
    prints("turned", x, 0, 2, 1, 0);
    C.due("drops are kept", x.many(3), 21);
    x.print(0, 8);
    x.cough(0, 4);
    prints("a later line for more", x, 0, 15, 2, 4);
    RainRead mumbled = Check.of("s,00;m10");
    prints("mumbled", mumbled, 0, 1, 2, 0);
    prints("mumbled", mumbled, 0, 8, 9, 0);
    prints("mumbled", mumbled, 0, 9, Check.NONE, Check.NONE);
    RainRead chanted = Check.of("s,00;c10");
    prints("chanted", chanted, 0, 1, 1, 0);
    prints("chanted", chanted, 0, 2, 2, 0);
    prints("chanted", chanted, 0, 17, 9, 0);
    prints("chanted", chanted, 0, 18, Check.NONE, Check.NONE);
    C.due("field 4", x.misprint(4, 100, 2), Check.UNKNOWN);
    C.due("field -1", x.misprint(-1, 0, 0), Check.UNKNOWN);
    C.due("v 100", x.misprint(0, 100, 0), Check.OUTSIDE);
    C.due("v -1", x.misprint(0, -1, 0), Check.OUTSIDE);
    C.due("what 2", x.misprint(0, 0, 2), Check.OUTSIDE);
    C.due("what -1", x.misprint(0, 0, -1), Check.OUTSIDE);
    RainRead none = new RainRead();
    C.due("no shower", none.misprint(0, 99, 1), Check.STATE);
    C.due("no shower, outside", none.misprint(0, 99, 2), Check.OUTSIDE);
  }

  private static void prints(String when, RainRead x, int f, int v, int by, int line) {
    C.due(when + ": by how many, " + f + " " + v, x.misprint(f, v, 0), by);
    C.due(when + ": which line, " + f + " " + v, x.misprint(f, v, 1), line);
  }

  private static void rests() {
    RainRead x = Check.of("s,50;p10");
    C.due("both", x.rests(0, 1, 0), 8);
    C.due("both", x.rests(1, 0, 0), 8);
    C.due("the first alone", x.rests(0, 2, 0), 2);
    C.due("the second alone", x.rests(2, 0, 0), 4);
    C.due("neither", x.rests(1, 2, 0), 1);
    C.due("nothing falls then", x.rests(0, 1, 1), 1);
    x.print(0, 2);
    C.due("alike is no less", x.rests(0, 1, 0), 11);
    C.due("alike is no less", x.rests(1, 0, 0), 13);
    x.cough(0, 0);
    x.cough(1, 0);
    C.due("whatever they did", x.rests(0, 1, 0), 11);
    x.print(0, 5);
    C.due("another one coughs", x.rests(0, 2, 0), 2);
    C.due("0 coughs, so 1 had better", x.rests(1, 2, 0), 2);
    C.due("coughs are kept", x.many(2), 2);
    C.due("field 4", x.rests(4, 0, 6), Check.UNKNOWN);
    C.due("field -1", x.rests(0, -1, 6), Check.UNKNOWN);
    C.due("the same", x.rests(2, 2, 6), Check.UNKNOWN);
    C.due("hour 6", x.rests(0, 1, 6), Check.OUTSIDE);
    C.due("hour -1", x.rests(0, 1, -1), Check.OUTSIDE);
    RainRead none = new RainRead();
    C.due("no shower, the same", none.rests(1, 1, 6), Check.UNKNOWN);
    C.due("no shower, hour", none.rests(1, 2, 6), Check.OUTSIDE);
    C.due("no shower", none.rests(1, 2, 5), Check.STATE);
  }
}
