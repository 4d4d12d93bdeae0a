/** Terms, sentence by sentence: refusals and faults, the shower and its text. */
public final class TermsTest {
  private static final Check C = new Check();

  public static void main(String[] args) {
    refusals();
    refusalsChangeNothing();
    faults();
    faultsInTheirOrder();
    cellsFromIOn();
    tellings();
    fieldsAndHours();
    textOfMostAndLeast();
    digitsOfText();
    firstFaults();
    kindsOfText();
    allAnew();
    reading();
    fallsMudHangs();
    given();
    calls512();
    C.end("TermsTest");
  }

  private static void refusals() {
    C.says(0, "REFUSALS: UNKNOWN (there is no such LINE, CRIER, FIELD, SHEET, place of a row)");
    RainRead x = Room.wet();
    C.due("no line", x.ofLine(5, 0), -1);
    C.due("no crier", x.ofCrier(3, 0), -1);
    C.due("no field", x.wet(4), -1);
    C.due("no sheet", x.lose(4), -1);
    C.says(0, "OUTSIDE (another number is not as told)");
    C.due("no such what", x.ofLine(0, 5), -2);
    C.due("too many drops", x.print(0, 10), -2);
    C.says(0, "STATE (as told), FULL");
    C.due("no shower", Room.dry().wet(0), -3);
    C.due("a ninth reading", Room.full().reading(0, 0), -4);
    C.says(0, "of several the first in the order in which a call's line tells them");
    RainRead dry = Room.dry();
    C.due("all three", dry.cough(4, 6), -1);
    C.due("the second and the third", dry.cough(3, 6), -2);
    C.due("the first and the third", dry.cough(4, 5), -1);
    C.due("the third", dry.cough(3, 5), -3);
    RainRead full = Room.full();
    C.due("UNKNOWN, OUTSIDE, FULL", full.reading(4, 121), -1);
    C.due("OUTSIDE, FULL", full.reading(3, 121), -2);
    C.due("UNKNOWN, FULL", full.reading(4, 120), -1);
  }

  private static void refusalsChangeNothing() {
    C.says(0, "They change nothing (but fault(), of a call that names FAULTS)");
    C.refusesClear("shower", Room::wet, -1, (x, v) -> x.shower(v, 0, 0, 28), 4);
    C.refusesClear("day", Room::wet, -1, (x, v) -> x.day(v, 1, 0, 3, 0), 4);
    C.refusesClear("sheet", Room::wet, -1, (x, v) -> x.sheet(v, 0, 1), 4);
    C.refusesClear("put", Room::wet, -1, (x, v) -> x.put(v, 0, 1), 4);
    C.refusesClear("cell", Room::wet, Check.LOST, (x, v) -> x.cell(v, 0, 0), 4);
    C.refusesClear("copy", Room::wet, -1, (x, v) -> x.copy(v, 0, 0, 1, 2), 4);
    C.refusesClear("as", Room::wet, -1, (x, v) -> x.as(v, 0), 4);
    C.refuses("ofLine", Room::wet, -1, (x, v) -> x.ofLine(v, 0), 6);
    C.refuses("ofCrier", Room::wet, -1, (x, v) -> x.ofCrier(v, 0), 4);
    C.refuses("print", Room::wet, -1, (x, v) -> x.print(v, 9), 6);
    C.refuses("begin", Room::wet, -1, (x, v) -> x.begin(v, 0), 4);
    C.refuses("cough", Room::wet, -1, (x, v) -> x.cough(v, 0), 4);
    C.refuses("comes", Room::wet, -1, (x, v) -> x.comes(v, 0), 4);
    C.refuses("wet", Room::wet, -1, (x, v) -> x.wet(v), 4);
    C.refuses("whole", Room::wet, -2, (x, v) -> x.whole(v), 4);
    C.refuses("most", Room::wet, -2, (x, v) -> x.most(v), 4);
    C.refuses("strayed", Room::wet, -1, (x, v) -> x.strayed(v, 0), 4);
    C.refuses("saved", Room::wet, -2, (x, v) -> x.saved(v, 0), 16);
    C.refuses("misprint", Room::wet, -1, (x, v) -> x.misprint(v, 0, 0), 4);
    C.refuses("rests", Room::wet, -1, (x, v) -> x.rests(v, 0, 0), 4);
    C.refuses("reading", Room::wet, -1, (x, v) -> x.reading(v, 0), 4);
    C.refuses("back", Room::wet, -2, (x, v) -> x.back(v), 3);
    C.refuses("kinds", Room::wet, -1, (x, v) -> x.kinds(v), 4);
    C.refuses("paces", Room::wet, -1, (x, v) -> x.paces(v), 4);
    C.refuses("starts", Room::wet, -1, (x, v) -> x.starts(v), 4);
    C.refuses("odds", Room::wet, Check.LOST, (x, v) -> x.odds(v, 0, 0), 4);
    C.refuses("lose", Room::wet, -1, (x, v) -> x.lose(v), 4);
    C.refuses("tell", Room::wet, -1, (x, v) -> x.tell(v), 4);
    C.refuses("bribe", Room::wet, -1, (x, v) -> x.bribe(v), 4);
    C.refuses("many", Room::wet, -2, (x, v) -> x.many(v), 5);
  }

  private static void faults() {
    C.says(0, "FAULTS are the machine's: 1 NULL (there is nothing)");
    C.faults("put into nothing", Room::wet, 1, (x, v) -> x.put(3, v, 0), 0);
    C.says(0, "2 CAST (it is of another LANE, kind)");
    C.faults("text of another lane", Room::wet, 2, (x, v) -> x.shower(0, v, 0, 28), 1, 2);
    C.faults("crier of another kind", Room::wet, 2, (x, v) -> x.as(0, v), 1, 2);
    C.says(0, "3 INDEX");
    C.faults("put", Room::wet, 3, (x, v) -> x.put(0, v, 0), -1, 28);
    C.says(0, "4 SIZE (a length below 0)");
    C.faults("sheet", Room::wet, 4, (x, v) -> x.sheet(0, 0, v), -1, Check.LEAST);
    C.faults("shower", Room::wet, 4, (x, v) -> x.shower(0, 0, 0, v), -1, Check.LEAST);
  }

  private static void faultsInTheirOrder() {
    C.says(0, "Of a call the first that is come to, in the order told");
    C.faults("CAST, SIZE, INDEX", Room::wet, 2, (x, v) -> x.shower(0, 1, v, v), -1);
    C.faults("NULL, SIZE, INDEX", Room::wet, 1, (x, v) -> x.shower(3, 1, v, v), -1);
    C.faults("SIZE, INDEX", Room::wet, 4, (x, v) -> x.shower(0, 0, v, v), -1);
    C.faults("NULL, INDEX", Room::wet, 1, (x, v) -> x.put(3, v, 0), -1, 60);
    C.says(0, "it answers -10 less it (LOST, where a long is answered, as for refusals) and changes nothing; fault() tells it");
    C.refused("NULL", Room::wet, -11, 1, (x, v) -> x.copy(3, 0, v, 0, 0), 0);
    C.refused("CAST", Room::wet, -12, 2, (x, v) -> x.copy(0, 0, v, 0, 0), 1);
    C.refused("INDEX", Room::wet, -13, 3, (x, v) -> x.copy(0, 0, v, 1, 28), 0);
    C.refused("SIZE", Room::wet, -14, 4, (x, v) -> x.sheet(v, 0, -1), 0);
    C.refused("NULL, a long", Room::wet, Long.MIN_VALUE, 1, (x, v) -> x.cell(v, 0, 0), 3);
    C.refused("CAST, a long", Room::wet, Long.MIN_VALUE, 2, (x, v) -> x.cell(v, 0, 0), 1);
    C.refused("INDEX, a long", Room::wet, Long.MIN_VALUE, 3, (x, v) -> x.cell(v, 28, 0), 0);
    C.refused("UNKNOWN, a long", Room::wet, Long.MIN_VALUE, 0, (x, v) -> x.cell(v, 0, 0), 4);
  }

  private static void cellsFromIOn() {
    C.says(0, "(of cells from i on also where i is not 0 .. how many there are, if none of them is taken, too)");
    int[] beyond = {-1, 29, 60, 61, Check.LEAST, Check.GREATEST};
    C.faults("shower of none", Room::wet, 3, (x, v) -> x.shower(0, 0, v, 0), beyond);
    C.faults("day of none", Room::wet, 3, (x, v) -> x.day(0, 0, v, 0, 0), beyond);
    C.faults("copy of none, from", Room::wet, 3, (x, v) -> x.copy(0, v, 0, 0, 0), beyond);
    C.faults("copy of none, to", Room::wet, 3, (x, v) -> x.copy(0, 0, 0, v, 0), beyond);
    for (int i : new int[] {0, 1, 27, 28}) {
      RainRead x = Room.wet();
      C.due("shower of none from " + i, x.shower(0, 0, i, 0), -100);
      C.due("day of none from " + i, x.day(0, 0, i, 0, 0), 20);
      C.due("copy of none from " + i, x.copy(0, i, 0, 28 - i, 0), 0);
      C.due("no fault", x.fault(), 0);
    }
    ofLength(0);
    ofLength(60);
  }

  /** A row that is empty, or as long as one may be. */
  private static void ofLength(int n) {
    RainRead x = Check.of(Check.SLOW);
    x.sheet(1, 1, n);
    C.due("shower at the end of " + n, x.shower(1, 1, n, 0), -100);
    C.due("shower behind the end of " + n, x.shower(1, 1, n + 1, 0), Check.INDEX);
    C.due("shower ahead of " + n, x.shower(1, 1, -1, 0), Check.INDEX);
    C.due("day at the end of " + n, x.day(1, 1, n, 0, 1), Check.NONE);
    C.due("day behind the end of " + n, x.day(1, 1, n + 1, 0, 1), Check.INDEX);
    C.due("copy at the end of " + n, x.copy(1, n, 1, n, 0), 0);
    C.due("copy behind the end of " + n, x.copy(1, n + 1, 1, n, 0), Check.INDEX);
    C.due("copy to behind the end of " + n, x.copy(1, n, 1, n + 1, 0), Check.INDEX);
    C.due("one more than there are of " + n, x.copy(1, 0, 1, 0, n + 1), Check.INDEX);
    C.due("all of " + n, x.copy(1, 0, 1, 0, n), n);
  }

  private static void tellings() {
    C.says(0, "NONE is -9");
    C.due("NONE", Room.wet().ofLine(0, 2), -9);
    C.says(0, "Sets are told as bits (bit k for number k)");
    C.due("nothing", Room.wet().ofCrier(1, 3), 0);
    C.due("4", Room.wet().ofCrier(2, 3), 16);
    C.due("1, 2", Room.wet().ofCrier(0, 3), 6);
    C.due("all of six", Check.of(Check.SLOW).starts(0), 63);
    C.due("1, 2, 3", Check.of(Check.SLOW).paces(0), 14);
    C.says(0, "Shares are told as upper and lower number (above 0) in least terms");
    RainRead x = Check.of("s,10,10,10,10,10,10;p10");
    long[][] due = {{0, 1, 1}, {1, 1, 1}, {2, 5, 6}, {3, 2, 3}, {4, 1, 2}, {5, 1, 3}, {6, 1, 6}, {7, 0, 1}};
    for (long[] row : due) {
      C.due("upper of " + row[0], x.odds(0, (int) row[0], 0), row[1]);
      C.due("lower of " + row[0], x.odds(0, (int) row[0], 1), row[2]);
    }
  }

  private static void fieldsAndHours() {
    C.says(0, "There are FIELDS 0 .. 3 (the next one of 3 is 0), HOURS 0 .. 5");
    RainRead x = Check.of("s,53;p10");
    int[] fields = {0, 0, 0, 5};
    for (int f = 0; f < 4; f++) {
      C.due("wet " + f, x.wet(f), fields[f]);
    }
    x.cough(3, 0);
    C.due("of 3 to 0", x.wet(0), 5);
    C.due("not to 1", x.wet(1), 0);
    C.due("no field 4", x.wet(4), Check.UNKNOWN);
    C.due("no field -1", x.wet(-1), Check.UNKNOWN);
    RainRead slow = Check.of(Check.SLOW);
    C.due("hour 0", slow.comes(0, 0), 1);
    C.due("hour 5", slow.comes(1, 5), 6);
    C.due("no hour 6", slow.comes(1, 6), Check.OUTSIDE);
    C.due("no hour -1", slow.comes(1, -1), Check.OUTSIDE);
  }

  private static int taken(String text) {
    return Check.take(new RainRead(), text);
  }

  private static void textOfMostAndLeast() {
    C.says(0, "A SHOWER by a TEXT: s, then 1 to 6 LINES, numbered from 0 on");
    C.due("no line", taken("s;p10"), -101);
    for (int lines = 1; lines <= 6; lines++) {
      RainRead x = new RainRead();
      C.due(lines + " lines", Check.take(x, "s" + ",93,72,51,30,10,21".substring(0, 3 * lines) + ";p10"), 1);
      C.due("so many", x.many(0), lines);
      C.due("the first is 0", x.ofLine(0, 0), 9);
      C.due("the last", x.ofLine(lines - 1, 0), new int[] {9, 7, 5, 3, 1, 2}[lines - 1]);
      C.due("no more", x.ofLine(lines, 0), Check.UNKNOWN);
    }
    C.due("7 lines", taken("s,93,72,51,30,10,21,00;p10"), -119);
    C.says(0, "then 1 to 3 CRIERS, numbered from 0 on");
    C.due("no crier", taken("s,93"), -104);
    for (int criers = 1; criers <= 3; criers++) {
      RainRead x = new RainRead();
      C.due(criers + " criers", Check.take(x, "s,93" + ";p30;p20;p10".substring(0, 4 * criers)), criers);
      C.due("so many", x.many(1), criers);
      C.due("the first is 0", x.ofCrier(0, 1), 3);
      C.due("the last", x.ofCrier(criers - 1, 1), 4 - criers);
      C.due("no more", x.ofCrier(criers, 1), Check.UNKNOWN);
    }
    C.due("4 criers", taken("s,93;p30;p20;p10;p10"), -116);
  }

  private static void digitsOfText() {
    C.says(0, "each: a comma, a digit 0 .. 9 (DROPS), a digit 0 .. 3 (FIELD)");
    for (char drops = '/'; drops <= ':'; drops++) {
      C.due("drops " + drops, taken("s," + drops + "0;p10"), drops >= '0' && drops <= '9' ? 1 : -102);
    }
    for (char field = '/'; field <= ':'; field++) {
      C.due("field " + field, taken("s,9" + field + ";p10"), field >= '0' && field <= '3' ? 1 : -103);
    }
    C.says(0, "each: ; and a letter (its kind), a digit 1 .. 3 (PACE), a digit 0 .. (START, a LINE that there is)");
    for (char pace = '/'; pace <= ':'; pace++) {
      C.due("pace " + pace, taken("s,90;p" + pace + "0"), pace >= '1' && pace <= '3' ? 1 : -106);
    }
    for (int lines = 1; lines <= 6; lines++) {
      String text = "s" + ",00,00,00,00,00,00".substring(0, 3 * lines);
      for (char start = '/'; start <= ':'; start++) {
        boolean is = start >= '0' && start < '0' + lines;
        C.due(lines + " lines, start " + start, taken(text + ";p1" + start), is ? 1 : -100 - (3 * lines + 4));
      }
    }
  }

  private static void firstFaults() {
    C.says(0, "FIRST FAULT: the place (from 0 on) of the first code with which no TEXT goes on");
    C.due("the first code", taken("xs,00;p10"), -100);
    C.due("of two the first", taken("s,0x;x"), -103);
    C.due("a start and what goes on too long", taken("s,00;p11;"), -107);
    C.due("the last code", taken("s,00;p10;p10;p1x"), -115);
    C.due("a kind for a crier's sign", taken("s,00p10"), -104);
    C.due("a line behind a crier", taken("s,00;p10,00"), -108);
    C.due("a second s", taken("ss,00;p10"), -101);
    everyCodeAtEveryPlace();
    C.says(0, "(the comma of a seventh LINE, the ; of a fourth CRIER)");
    C.due("the comma alone", taken("s,00,00,00,00,00,00,"), -119);
    C.due("the line", taken("s,00,00,00,00,00,00,00"), -119);
    C.due("all the rest", taken("s,00,00,00,00,00,00,00;p10"), -119);
    C.due("the sixth's is none", taken("s,00,00,00,00,00,"), -117);
    C.due("the ; alone", taken("s,00;p10;p10;p10;"), -116);
    C.due("the crier", taken("s,00;p10;p10;p10;p10"), -116);
    C.due("the third's is none", taken("s,00;p10;p10;"), -113);
    C.due("of the longest text", taken(Check.MOST + ";"), -131);
    C.due("and a comma", taken(Check.MOST + ","), -131);
    C.says(0, "how many codes there are, if it just ends too soon");
    for (int n = 0; n < Check.MOST.length(); n++) {
      boolean isWhole = n == 23 || n == 27;
      C.due(n + " codes of the longest text", taken(Check.MOST.substring(0, n)), isWhole ? (n - 19) / 4 : -100 - n);
    }
    C.due("all of it", taken(Check.MOST), 3);
    C.says(0, "(Codes: s 115, the comma 44, p 112, m 109, c 99, ; 59, digits 48 .. 57.)");
    int[] codes = {115, 44, 57, 51, 44, 48, 48, 59, 112, 49, 48, 59, 109, 50, 49, 59, 99, 51, 48};
    for (int lane = 0; lane < 3; lane++) {
      RainRead x = new RainRead();
      x.sheet(0, lane, codes.length);
      for (int i = 0; i < codes.length; i++) {
        x.put(0, i, codes[i]);
      }
      C.due("lane " + lane, x.shower(0, lane, 0, codes.length), 3);
      for (int i = 0; i < codes.length; i++) {
        x.put(0, i, codes[i] + (lane == 1 ? 256 : 65536));
        C.due("a code that is cut, lane " + lane, x.shower(0, lane, 0, codes.length), lane == 0 ? 3 : -100 - i);
        x.put(0, i, codes[i]);
      }
    }
  }

  /** One code of a text becomes another one: at each place those with which a text goes on, and all others. */
  private static void everyCodeAtEveryPlace() {
    String text = "s,93,00;p11;m20";
    String[] goOn = {"s", ",", "0123456789", "0123", ",;", "0123456789", "0123", ",;", "pmc", "123", "01", ";", "pmc", "123", "01"};
    for (int place = 0; place < text.length(); place++) {
      for (char code = 0; code < 128; code++) {
        boolean isSign = goOn[place].length() == 2 && goOn[place].equals(",;");
        int due = goOn[place].indexOf(code) < 0 ? -100 - place : isSign && code != text.charAt(place) ? -101 - place : 2;
        String other = text.substring(0, place) + code + text.substring(place + 1);
        C.due("code " + (int) code + " at " + place, taken(other), due);
      }
    }
    C.due("a line without digits", taken("s,;p10"), -102);
    C.due("a line without digits", taken("s,,00;p10"), -102);
    C.due("a line without a field", taken("s,9;p10"), -103);
    C.due("a line without a field", taken("s,9,00;p10"), -103);
    C.due("a crier without a kind", taken("s,00;10"), -105);
    C.due("a crier without any", taken("s,00;;p10"), -105);
    C.due("a crier without a pace", taken("s,00;p;p10"), -106);
    C.due("a crier without a start", taken("s,00;p1;p10"), -107);
    C.due("no s", taken(",00;p10"), -100);
  }

  private static void kindsOfText() {
    C.says(0, "Kinds: 0 PLAIN (p); 1 MUMBLING (m), a PLAIN one; 2 CHANTING (c), a MUMBLING one");
    for (int code = 0; code < 128; code++) {
      RainRead x = new RainRead();
      int kind = "pmc".indexOf(code);
      C.due("letter " + code, Check.take(x, "s,00;" + (char) code + "10"), kind < 0 ? -105 : 1);
      C.due("kind of " + code, x.ofCrier(0, 0), kind < 0 ? Check.UNKNOWN : kind);
      for (int as = 0; kind >= 0 && as < 3; as++) {
        C.due(kind + " as " + as, x.as(0, as), as <= kind ? 1 : Check.CAST);
      }
    }
  }

  private static void allAnew() {
    C.says(0, "A TEXT that is taken makes all anew: nobody COUGHS, no READINGS");
    RainRead x = Room.full();
    // What is asked of coughs and other starts ahead of it must leave nothing behind.
    x.day(1, 1, 0, 3, 0);
    x.most(-1);
    C.due("the same text again", x.shower(0, 0, 0, 28), 3);
    C.due("coughs", x.many(2), 0);
    C.due("readings", x.many(4), 0);
    for (int f = 0; f < 4; f++) {
      C.due("wet " + f, x.wet(f), new int[] {0, 3, 7, 17}[f]);
    }
    C.due("the first reading", x.reading(0, 0), 0);
    C.due("the first cough", x.cough(3, 0), 1);
    RainRead less = Check.of(Check.MOST);
    less.print(0, 1);
    less.begin(0, 3);
    C.due("a lesser text", Check.take(less, "s,00;m10"), 1);
    C.due("its lines", less.many(0), 1);
    C.due("its criers", less.many(1), 1);
    C.due("its wet", less.many(3), 0);
    C.due("a greater text", Check.take(less, Check.MOST), 3);
    C.due("drops anew", less.ofLine(0, 0), 9);
    C.due("start anew", less.ofCrier(0, 2), 5);
    C.refusesClear("a text that is not taken", Room::full, -102, (y, v) -> y.shower(0, 0, 0, v), 2);
  }

  private static void reading() {
    C.says(0, "A CRIER reads at HOUR t so many LINES, one behind another, as his PACE is");
    hours("s,00,00,00,00,00,00;p10", 0, 1, 2, 3, 4, 5);
    hours("s,00,00,00,00,00,00;p20", 0, 0, 1, 1, 2, 2);
    hours("s,00,00,00,00,00,00;p30", 0, 0, 0, 1, 1, 1);
    C.says(0, "from LINE START and PACE times t together on, as long as there are any");
    hours("s,00,00,00,00,00,00;p11", -9, 0, 1, 2, 3, 4);
    hours("s,00,00,00,00,00,00;p22", -9, -9, 0, 0, 1, 1);
    hours("s,00,00,00,00,00,00;p31", -9, 0, 0, 0, 1, 1);
    hours("s,00,00,00,00,00,00;p35", -9, -9, -9, -9, -9, 0);
    hours("s,00,00;p20", 0, 0);
    hours("s,00;p30", 0);
    C.says(0, "A LINE is READ at the least HOUR at which any CRIER reads it");
    hours("s,00,00,00,00,00,00;p10;p13", 0, 1, 2, 0, 1, 2);
    hours("s,00,00,00,00,00,00;p13;p10", 0, 1, 2, 0, 1, 2);
    hours("s,00,00,00,00,00,00;p10;p10;p34", 0, 1, 2, 3, 0, 0);
  }

  private static void hours(String text, int... due) {
    RainRead x = Check.of(text);
    for (int l = 0; l < due.length; l++) {
      C.due(text + ": hour of line " + l, x.ofLine(l, 2), due[l]);
    }
  }

  private static void by(String text, int... due) {
    RainRead x = Check.of(text);
    for (int l = 0; l < due.length; l++) {
      C.due(text + ": crier of line " + l, x.ofLine(l, 3), due[l]);
    }
  }

  private static void fallsMudHangs() {
    C.says(0, "if one alone does then, it FALLS by him");
    by("s,00;p10", 0);
    by("s,10,10,10;p10;p11;p12", 0, 1, 2);
    by("s,10,10,10;p12;p11;p10", 2, 1, 0);
    C.says(0, "if several do, it is MUD");
    by("s,10,10;p10;p10", -9, -9);
    by("s,10,10;p10;p10;p10", -9, -9);
    by("s,10,10;p10;p10;p11", -9, 2);
    by("s,10,10;p11;p10;p10", -9, 0);
    by("s,10,10;p10;p11;p11", 0, -9);
    by("s,10,10,10;p12;p10;p12", 1, 1, -9);
    C.says(0, "if none ever does, it HANGS");
    by("s,10,10,10;p12;p11", -9, 1, 0);
    C.due("its hour", Check.of("s,10,10,10;p12;p11").ofLine(0, 2), -9);
    C.says(0, "Nothing FALLS of LINES that are MUD or HANG");
    RainRead x = Check.of("s,90,91;p11;c11");
    C.due("hangs", x.ofLine(0, 4), 0);
    C.due("is mud", x.ofLine(1, 4), 0);
    C.due("wet of all", x.many(3), 0);
  }

  private static void given() {
    C.says(0, "What FALLS of a LINE: as a PLAIN CRIER gives it, DROPS");
    gives('p', 0, 1, 2, 3, 4, 5, 6, 7, 8, 9);
    C.says(0, "a MUMBLING one 1 less (0 at least)");
    gives('m', 0, 0, 1, 2, 3, 4, 5, 6, 7, 8);
    C.says(0, "a CHANTING one what a MUMBLING one does and what a PLAIN one does together");
    gives('c', 0, 1, 3, 5, 7, 9, 11, 13, 15, 17);
  }

  private static void gives(char kind, int... due) {
    for (int drops = 0; drops < due.length; drops++) {
      RainRead x = Check.of("s," + drops + "2;" + kind + "10");
      C.due(kind + " gives of " + drops, x.ofLine(0, 4), due[drops]);
      C.due("it falls by him", x.ofLine(0, 3), 0);
      C.due("so wet is it", x.wet(2), due[drops]);
    }
  }

  private static void calls512() {
    C.says(0, "An object is used for at most 512 calls after it has been made");
    RainRead x = Check.of("s,50;p10");
    for (int call = 11; call <= 511; call++) {
      C.due("call " + call, x.cough(0, 0), call % 2);
    }
    C.due("call 512", x.many(2), 1);
  }
}
