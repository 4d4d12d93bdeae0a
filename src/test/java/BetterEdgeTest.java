/** Terms 3 and promises 11 to 16, sentence by sentence: the edges of what would be better. */
public final class BetterEdgeTest {
  private static final Check C = new Check();
  private static final int[] NO_FIELD = {-1, 4, Check.LEAST, Check.GREATEST};
  private static final int[] NO_HOUR = {-1, 6, Check.LEAST, Check.GREATEST};
  private static final int[] NO_ASKED_WET = {-1, 100, Check.LEAST, Check.GREATEST};

  public static void main(String[] args) {
    beginnings();
    wholes();
    mosts();
    lostPlaces();
    strayedRefused();
    savings();
    savedRefused();
    misprints();
    misprintsRefused();
    pains();
    restsRefused();
    C.end("BetterEdgeTest");
  }

  private static void whole(String text, int many, int... first) {
    RainRead x = Check.of(text);
    C.due(text + ": whole ones", x.whole(-1), many);
    for (int k = 0; k < 3; k++) {
      C.due(text + ": start of " + k, x.whole(k), k < first.length ? first[k] : Check.NONE);
    }
  }

  private static void most(String text, int wet, int... first) {
    RainRead x = Check.of(text);
    C.due(text + ": most", x.most(-1), wet);
    for (int k = 0; k < 3; k++) {
      C.due(text + ": start of " + k, x.most(k), k < first.length ? first[k] : Check.NONE);
    }
  }

  private static void beginnings() {
    C.says(0, "BEGINNINGS: STARTS of all CRIERS, each any LINE (rows of them, lesser ones first, by the first that differ)");
    whole("s,10,10,10;p12;p12", 4, 0, 1);
    whole("s,10,10,10;p32;p12", 2, 1, 0);
    most("s,10,10,10;p12;p12", 3, 0, 1);
    most("s,00,00,90;p10;p10", 9, 0, 1);
    most("s,00,90,00;p10;c10", 17, 0, 1);
    most("s,90,00,00;p10;c10", 17, 1, 0);
    C.says(0, "WHOLE ones: by which no LINE HANGS or is MUD: how many; the first");
    whole("s,00,00,00,00,00,00;p15", 1, 0);
    whole("s,00,00,00,00,00,00;p15;p15;p15", 60, 0, 1, 2);
    whole("s,00,00;p10;p10", 2, 0, 1);
    whole("s,00;p10", 1, 0);
    whole("s,90;p10;p10", 0);
    whole("s,90;p10;p10;p10", 0);
    whole("s,90,90;p10;p10;p10", 0);
    C.says(0, "MOST: the greatest WET of all FIELDS together by any; the first of these");
    most("s,10,21,32;p10;c10", 9, 0, 1);
    most("s,93,93,93,93,93,93;c15", 102, 0);
    most("s,00,00,00;p12;p12;p12", 0, 0, 0, 0);
    most("s,90;p10;p10", 0, 0, 0);
    RainRead x = Check.of("s,50,31;p11;m11");
    x.cough(0, 0);
    C.due("turned is not lost", x.most(-1), 7);
    x.cough(1, 0);
    C.due("what is lost does not count", x.most(-1), 3);
    C.due("the first of these, 0", x.most(0), 1);
    C.due("the first of these, 1", x.most(1), 0);
  }

  private static void wholes() {
    C.says(11, "WHOLE BEGINNINGS: how many (k -1), START of CRIER k (0 .. 2) of the first");
    RainRead x = Room.wet();
    C.due("how many", x.whole(-1), 20);
    C.due("start of 0", x.whole(0), 0);
    C.due("start of 1", x.whole(1), 1);
    C.due("start of 2", x.whole(2), 2);
    C.due("nothing is changed", Room.told(x), Room.told(Room.wet()));
    C.says(11, "NONE: there is none, no such CRIER");
    RainRead none = Check.of("s,90;p10;p10");
    C.due("there is none: how many", none.whole(-1), 0);
    C.due("there is none", none.whole(0), Check.NONE);
    C.due("there is none", none.whole(1), Check.NONE);
    C.due("there is none, no such crier", none.whole(2), Check.NONE);
    RainRead one = Check.of("s,90;p10");
    C.due("the crier", one.whole(0), 0);
    C.due("no crier 1", one.whole(1), Check.NONE);
    C.due("no crier 2", one.whole(2), Check.NONE);
    C.says(11, "OUTSIDE; STATE: there is no SHOWER");
    C.refuses("k", Room::wet, Check.OUTSIDE, (y, v) -> y.whole(v), -2, 3, Check.LEAST, Check.GREATEST);
    C.refuses("no shower, k", Room::dry, Check.OUTSIDE, (y, v) -> y.whole(v), -2, 3);
    C.refuses("no shower", Room::dry, Check.STATE, (y, v) -> y.whole(v), -1, 0, 2);
  }

  private static void mosts() {
    C.says(12, "MOST (k -1), START of CRIER k (0 .. 2) of the first such");
    RainRead x = Check.of("s,10,20,30;p10;m10;c10");
    C.due("most", x.most(-1), 8);
    C.due("start of 0", x.most(0), 0);
    C.due("start of 1", x.most(1), 0);
    C.due("start of 2", x.most(2), 1);
    RainRead kept = Room.wet();
    kept.most(-1);
    kept.most(2);
    C.due("nothing is changed", Room.told(kept), Room.told(Room.wet()));
    C.says(12, "NONE: there is no such CRIER");
    RainRead one = Check.of("s,90;p10");
    C.due("the crier", one.most(0), 0);
    C.due("no crier 1", one.most(1), Check.NONE);
    C.due("no crier 2", one.most(2), Check.NONE);
    RainRead mud = Check.of("s,90;p10;p10");
    C.due("nothing falls", mud.most(-1), 0);
    C.due("still there is a first", mud.most(1), 0);
    C.due("no crier 2", mud.most(2), Check.NONE);
    C.says(12, "OUTSIDE; STATE: there is no SHOWER");
    C.refuses("k", Room::wet, Check.OUTSIDE, (y, v) -> y.most(v), -2, 3, Check.LEAST, Check.GREATEST);
    C.refuses("no shower, k", Room::dry, Check.OUTSIDE, (y, v) -> y.most(v), -2, 3);
    C.refuses("no shower", Room::dry, Check.STATE, (y, v) -> y.most(v), -1, 0, 2);
  }

  private static void strays(String text, int c, int lines, int fields) {
    RainRead x = Check.of(text);
    C.due(text + ": lines for sure", x.strayed(c, 0), lines);
    C.due(text + ": fields for sure", x.strayed(c, 1), fields);
  }

  private static void lostPlaces() {
    C.says(0, "A CRIER who LOST his place: whatever START he has: LINES that FALL (by whomever) for sure");
    strays("s,10,21;p10", 0, 2, 2);
    strays("s,10,21;p11", 0, 2, 2);
    strays("s,10,21,32;p10;p30", 1, 6, 6);
    strays("s,10,21,32;p10;p30", 0, 0, 0);
    strays("s,10,21,32,43,50,61;p10", 0, 32, 2);
    strays("s,10,21,32,43,50,61;p10;p30", 1, 62, 15);
    strays("s,10,21,32;p10;p11;p12", 0, 0, 0);
    strays("s,10,21,32;p10;p11;p22", 2, 0, 0);
    C.says(0, "FIELDS with WET above 0 for sure");
    strays("s,13;p10", 0, 1, 8);
    strays("s,03;p10", 0, 1, 0);
    strays("s,13;m10", 0, 1, 0);
    strays("s,23;m10", 0, 1, 8);
    strays("s,12,12;p10;p31", 1, 2, 4);
    strays("s,12,12;p10;p30", 0, 0, 4);
    RainRead x = Check.of("s,13;p10");
    x.cough(3, 0);
    C.due("turned", x.strayed(0, 1), 1);
    x.cough(0, 0);
    C.due("lost", x.strayed(0, 1), 0);
    C.due("still it falls", x.strayed(0, 0), 1);
  }

  private static void strayedRefused() {
    C.says(13, "Of a CRIER who LOST his place: LINES that FALL for sure (what 0), FIELDS that are wet for sure (1), as sets");
    RainRead x = Room.wet();
    C.due("of the first, lines", x.strayed(0, 0), 0);
    C.due("of the first, fields", x.strayed(0, 1), 0);
    C.due("of the second, lines", x.strayed(1, 0), 0);
    C.due("of the second, fields", x.strayed(1, 1), 1);
    C.due("of the last, lines", x.strayed(2, 0), 0);
    C.due("of the last, fields", x.strayed(2, 1), 0);
    C.due("nothing is changed", Room.told(x), Room.told(Room.wet()));
    C.says(13, "UNKNOWN; OUTSIDE");
    C.refuses("crier", Room::wet, Check.UNKNOWN, (y, v) -> y.strayed(v, 0), -1, 3, Check.LEAST, Check.GREATEST);
    C.refuses("what", Room::wet, Check.OUTSIDE, (y, v) -> y.strayed(2, v), -1, 2, Check.LEAST, Check.GREATEST);
    C.refuses("both", Room::wet, Check.UNKNOWN, (y, v) -> y.strayed(3, v), -1, 2);
    C.refuses("no shower", Room::dry, Check.UNKNOWN, (y, v) -> y.strayed(v, 2), -1, 0);
  }

  private static void saves(RainRead x, int set, int v, int due) {
    C.due("saved " + set + " " + v, x.saved(set, v), due);
  }

  private static void savings() {
    C.says(0, "SAVED: the fewest HOURS in which all FIELDS of a set COUGH, and no others");
    RainRead slow = Check.of(Check.SLOW);
    int[][] due = {{1, 6, 0}, {1, 5, 1}, {1, 1, 1}, {1, 0, 2}, {2, 8, 0}, {2, 7, 1}, {2, 2, 1}, {2, 1, 2}, {8, 4, 0},
      {8, 3, 1}, {15, 0, 6}, {15, 3, 3}, {15, 8, 0}, {5, 0, 3}};
    for (int[] row : due) {
      saves(slow, row[0], row[1], row[2]);
    }
    saves(Check.of("s,53;p10"), 9, 0, 1);
    saves(Check.of("s,50;p10"), 3, 0, 1);
    C.says(0, "at no other HOURS any (whoever COUGHS now)");
    RainRead coughs = Check.of("s,50;p10");
    coughs.cough(0, 0);
    saves(coughs, 1, 4, 1);
    saves(coughs, 2, 0, 0);
    RainRead turned = Check.of("s,53;p10");
    turned.cough(3, 0);
    saves(turned, 1, 0, 0);
    saves(turned, 8, 0, 1);
    C.due("they still do", turned.many(2), 1);
    C.says(0, "so that each FIELD of the set has WET v at most; NONE: by none");
    RainRead most = Check.of("s,93,93,93,93,93,93;c10");
    int[] left = {102, 85, 68, 51, 34, 17, 0};
    for (int hours = 1; hours <= 6; hours++) {
      saves(most, 8, Math.min(left[hours], 99), hours);
      saves(most, 8, Math.min(left[hours - 1] - 1, 99), hours);
    }
    saves(most, 7, 0, 0);
    // In an hour in which the whole set coughs nothing comes to it: by all six hours every set is saved.
    for (int set = 0; set < 16; set++) {
      C.due("set " + set + " is saved", slow.saved(set, 0) == Check.NONE ? 1 : 0, 0);
    }
  }

  private static void savedRefused() {
    C.says(14, "SAVED: how many; NONE");
    RainRead changed = Check.of("s,50,31;p10");
    C.due("as it was", changed.saved(1, 5), 0);
    changed.print(0, 6);
    C.due("more drops", changed.saved(1, 5), 1);
    changed.begin(0, 1);
    C.due("it hangs", changed.saved(1, 0), 0);
    RainRead x = Room.wet();
    C.due("no field", x.saved(0, 0), 0);
    C.due("all fields, dry", x.saved(15, 0), 2);
    C.due("all fields, however wet", x.saved(15, 99), 0);
    C.due("nothing is changed", Room.told(x), Room.told(Room.wet()));
    C.says(14, "OUTSIDE: set (0 .. 15), v (0 .. 99); STATE: there is no SHOWER");
    C.refuses("set", Room::wet, Check.OUTSIDE, (y, v) -> y.saved(v, 0), -1, 16, Check.LEAST, Check.GREATEST);
    C.refuses("v", Room::wet, Check.OUTSIDE, (y, v) -> y.saved(15, v), NO_ASKED_WET);
    C.refuses("no shower, set", Room::dry, Check.OUTSIDE, (y, v) -> y.saved(v, 0), -1, 16);
    C.refuses("no shower, v", Room::dry, Check.OUTSIDE, (y, v) -> y.saved(0, v), -1, 100);
    C.refuses("no shower", Room::dry, Check.STATE, (y, v) -> y.saved(v, 99), 0, 15);
  }

  private static void prints(RainRead x, int f, int v, int by, int line) {
    C.due("misprint for " + f + " " + v + ", by", x.misprint(f, v, 0), by);
    C.due("misprint for " + f + " " + v + ", line", x.misprint(f, v, 1), line);
  }

  private static void misprints() {
    C.says(0, "MISPRINT: the least change of DROPS (0 .. 9) of one LINE, by how many, by which a FIELD has WET v or more");
    RainRead x = Check.of("s,10,20;p20");
    prints(x, 0, 4, 1, 0);
    prints(x, 0, 11, 8, 0);
    prints(x, 0, 12, Check.NONE, Check.NONE);
    RainRead later = Check.of("s,20,10;p20");
    prints(later, 0, 10, 7, 0);
    prints(later, 0, 11, 8, 1);
    prints(later, 0, 12, Check.NONE, Check.NONE);
    RainRead wide = Check.of("s,00;p10");
    prints(wide, 0, 1, 1, 0);
    prints(wide, 0, 9, 9, 0);
    prints(wide, 0, 10, Check.NONE, Check.NONE);
    prints(Check.of("s,90;p10"), 0, 10, Check.NONE, Check.NONE);
    prints(Check.of("s,10;m10"), 0, 1, 1, 0);
    prints(Check.of("s,00;m10"), 0, 1, 2, 0);
    prints(Check.of("s,80;c10"), 0, 17, 1, 0);
    prints(Check.of("s,70;c10"), 0, 17, 2, 0);
    C.says(0, "the first such LINE");
    prints(Check.of("s,10,10,10;p30"), 0, 4, 1, 0);
    prints(Check.of("s,00,50;p11"), 0, 6, 1, 1);
    prints(Check.of("s,01,50;p20"), 0, 6, 1, 1);
    prints(Check.of("s,10,10;p10;c11"), 0, 4, 1, 1);
    prints(Check.of("s,10,10;p10;c11"), 0, 3, 1, 0);
    C.says(0, "0 and NONE, if it has; NONE: by none");
    prints(x, 0, 0, 0, Check.NONE);
    prints(x, 0, 3, 0, Check.NONE);
    prints(x, 1, 0, 0, Check.NONE);
    prints(x, 1, 1, Check.NONE, Check.NONE);
    prints(Check.of("s,90;p10;p10"), 0, 1, Check.NONE, Check.NONE);
    prints(Check.of("s,93,93,93,93,93,93;c10"), 3, 99, 0, Check.NONE);
    prints(Check.of("s,93,93,93,93,93,83;c10"), 3, 99, 0, Check.NONE);
    prints(Check.of("s,93,93,93,93,93,73;c10"), 3, 99, 1, 5);
    prints(Check.of("s,93,93,93,93,93,03;c10"), 3, 99, 8, 5);
    RainRead coughs = Check.of("s,53;p10");
    coughs.cough(3, 0);
    prints(coughs, 0, 6, 1, 0);
    prints(coughs, 3, 1, Check.NONE, Check.NONE);
    coughs.cough(0, 0);
    prints(coughs, 0, 1, Check.NONE, Check.NONE);
  }

  private static void misprintsRefused() {
    C.says(15, "MISPRINT: by how many (what 0), which LINE (1); NONE");
    RainRead x = Room.wet();
    prints(x, 0, 0, 0, Check.NONE);
    prints(x, 1, 9, 6, 1);
    prints(x, 1, 10, Check.NONE, Check.NONE);
    prints(x, 3, 99, Check.NONE, Check.NONE);
    C.due("nothing is changed", Room.told(x), Room.told(Room.wet()));
    C.says(15, "UNKNOWN: FIELD; OUTSIDE: v (0 .. 99), what; STATE: there is no SHOWER");
    C.refuses("field", Room::wet, Check.UNKNOWN, (y, v) -> y.misprint(v, 0, 0), NO_FIELD);
    C.refuses("v", Room::wet, Check.OUTSIDE, (y, v) -> y.misprint(3, v, 1), NO_ASKED_WET);
    C.refuses("what", Room::wet, Check.OUTSIDE, (y, v) -> y.misprint(3, 99, v), -1, 2, Check.LEAST, Check.GREATEST);
    C.refuses("field, v", Room::wet, Check.UNKNOWN, (y, v) -> y.misprint(4, v, 0), NO_ASKED_WET);
    C.refuses("field, what", Room::wet, Check.UNKNOWN, (y, v) -> y.misprint(4, 0, v), -1, 2);
    C.refuses("no shower, field", Room::dry, Check.UNKNOWN, (y, v) -> y.misprint(v, 0, 0), NO_FIELD);
    C.refuses("no shower, v", Room::dry, Check.OUTSIDE, (y, v) -> y.misprint(0, v, 0), NO_ASKED_WET);
    C.refuses("no shower, what", Room::dry, Check.OUTSIDE, (y, v) -> y.misprint(0, 0, v), -1, 2);
    C.refuses("no shower", Room::dry, Check.STATE, (y, v) -> y.misprint(v, 99, 1), 0, 3);
  }

  private static void pains() {
    C.says(0, "RESTS of two unlike FIELDS at an HOUR: each COUGHS then, or not, whatever it did");
    for (int coughing = 0; coughing < 4; coughing++) {
      RainRead x = Check.of("s,50;p10");
      if (coughing % 2 == 1) {
        x.cough(0, 0);
      }
      if (coughing / 2 == 1) {
        x.cough(1, 0);
      }
      C.due("0 and 1, whatever they did", x.rests(0, 1, 0), 8);
      C.due("coughs are as they were", x.many(2), Integer.bitCount(coughing));
    }
    RainRead other = Check.of("s,50;p10");
    other.cough(0, 0);
    C.due("another one coughs, it stays so", other.rests(1, 2, 0), 2);
    other.cough(1, 1);
    other.cough(2, 1);
    C.due("in other hours it does not matter", other.rests(1, 2, 0), 2);
    C.says(0, "PAIN of a FIELD: its WET, and 2, if it COUGHS");
    int[][] due = {{0, 1}, {1, 1}, {2, 11}, {3, 8}, {9, 8}};
    for (int[] row : due) {
      RainRead x = Check.of("s," + row[0] + "3;p10");
      C.due(row[0] + " drops for the first, the second is next", x.rests(3, 0, 0), row[1]);
    }
    C.says(0, "0: neither COUGHS, 1: the first alone, 2: the second alone, 3: both");
    RainRead x = Check.of("s,50;p10");
    C.due("neither", x.rests(1, 2, 0), 1);
    C.due("neither, no rain then", x.rests(0, 1, 5), 1);
    C.due("the first alone", x.rests(0, 2, 0), 2);
    C.due("the second alone", x.rests(2, 0, 0), 4);
    C.due("both", x.rests(0, 1, 0), 8);
    C.due("both, the other way round", x.rests(1, 0, 0), 8);
    C.says(0, "those in which neither would have less PAIN by doing otherwise, while the other one does the same, as a set");
    x.print(0, 2);
    C.due("as much PAIN is not less", x.rests(0, 2, 0), 3);
    C.due("as much PAIN is not less", x.rests(2, 0, 0), 5);
    C.due("as much PAIN is not less", x.rests(0, 1, 0), 11);
    C.due("as much PAIN is not less", x.rests(1, 0, 0), 13);
    RainRead two = Check.of("s,20,22;p20");
    C.due("as much PAIN for both", two.rests(0, 2, 0), 15);
  }

  private static void restsRefused() {
    C.says(16, "RESTS, as a set");
    RainRead x = Check.of(Check.SLOW);
    C.due("the last hour", x.rests(1, 2, 5), 8);
    C.due("the last hour", x.rests(1, 0, 5), 2);
    C.due("the last hour", x.rests(0, 1, 5), 4);
    C.due("the last hour", x.rests(2, 3, 5), 1);
    C.due("3 and its next one", x.rests(3, 0, 3), 8);
    C.due("0 and 3", x.rests(0, 3, 3), 8);
    C.due("the first hour, one drop", x.rests(0, 1, 0), 1);
    RainRead kept = Room.wet();
    kept.rests(3, 0, 0);
    C.due("nothing is changed", Room.told(kept), Room.told(Room.wet()));
    C.says(16, "UNKNOWN: either FIELD, both the same; OUTSIDE: HOUR (0 .. 5); STATE: there is no SHOWER");
    C.refuses("the first", Room::wet, Check.UNKNOWN, (y, v) -> y.rests(v, 0, 0), NO_FIELD);
    C.refuses("the second", Room::wet, Check.UNKNOWN, (y, v) -> y.rests(0, v, 0), NO_FIELD);
    C.refuses("the same", Room::wet, Check.UNKNOWN, (y, v) -> y.rests(v, v, 0), -1, 0, 1, 2, 3, 4);
    C.refuses("hour", Room::wet, Check.OUTSIDE, (y, v) -> y.rests(0, 3, v), NO_HOUR);
    C.refuses("the first, hour", Room::wet, Check.UNKNOWN, (y, v) -> y.rests(4, 0, v), NO_HOUR);
    C.refuses("the second, hour", Room::wet, Check.UNKNOWN, (y, v) -> y.rests(0, 4, v), NO_HOUR);
    C.refuses("the same, hour", Room::wet, Check.UNKNOWN, (y, v) -> y.rests(1, 1, v), NO_HOUR);
    C.refuses("no shower, fields", Room::dry, Check.UNKNOWN, (y, v) -> y.rests(v, 0, 0), -1, 0, 4);
    C.refuses("no shower, fields", Room::dry, Check.UNKNOWN, (y, v) -> y.rests(0, v, 0), -1, 0, 4);
    C.refuses("no shower, hour", Room::dry, Check.OUTSIDE, (y, v) -> y.rests(0, 1, v), NO_HOUR);
    C.refuses("no shower", Room::dry, Check.STATE, (y, v) -> y.rests(3, 2, v), 0, 5);
  }
}
