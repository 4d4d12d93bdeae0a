import java.util.ArrayList;
import java.util.List;
import java.util.regex.Matcher;
import java.util.regex.Pattern;

/**
 * The document said once more in another way, to hold RainRead against: hours are gone through one by one, texts
 * are matched by patterns, sheets are arrays of their own type, and every question is asked of copies.
 */
final class Model {
  private static final int NONE = -9, UNKNOWN = -1, OUTSIDE = -2, STATE = -3, FULL = -4;

  /** One state of lines, criers and coughs. */
  static final class World {
    final List<int[]> lines = new ArrayList<>();
    final List<int[]> criers = new ArrayList<>();
    final boolean[][] coughs = new boolean[4][6];

    World copied() {
      World w = new World();
      for (int[] line : lines) {
        w.lines.add(line.clone());
      }
      for (int[] crier : criers) {
        w.criers.add(crier.clone());
      }
      for (int f = 0; f < 4; f++) {
        w.coughs[f] = coughs[f].clone();
      }
      return w;
    }

    int[] readAt() {
      int[] at = new int[lines.size()];
      java.util.Arrays.fill(at, NONE);
      for (int t = 5; t >= 0; t--) {
        for (int l = 0; l < lines.size(); l++) {
          at[l] = readersAt(l, t).isEmpty() ? at[l] : t;
        }
      }
      return at;
    }

    List<Integer> readersAt(int l, int t) {
      List<Integer> found = new ArrayList<>();
      for (int c = 0; c < criers.size(); c++) {
        int first = criers.get(c)[2] + criers.get(c)[1] * t;
        for (int k = 0; k < criers.get(c)[1]; k++) {
          if (first + k == l) {
            found.add(c);
          }
        }
      }
      return found;
    }

    int by(int l) {
      int t = readAt()[l];
      return t == NONE || readersAt(l, t).size() != 1 ? NONE : readersAt(l, t).get(0);
    }

    int falls(int l) {
      int c = by(l);
      if (c == NONE) {
        return 0;
      }
      int drops = lines.get(l)[0];
      int less = drops == 0 ? 0 : drops - 1;
      return new int[] {drops, less, less + drops}[criers.get(c)[0]];
    }

    int comes(int f, int t) {
      int sum = 0;
      for (int l = 0; l < lines.size(); l++) {
        int to = lines.get(l)[1];
        boolean turned = coughs[to][t];
        int end = !turned ? to : coughs[(to + 1) % 4][t] ? -1 : (to + 1) % 4;
        sum += readAt()[l] == t && end == f ? falls(l) : 0;
      }
      return sum;
    }

    int wet(int f) {
      int sum = 0;
      for (int t = 0; t < 6; t++) {
        sum += comes(f, t);
      }
      return sum;
    }

    int wetOfAll() {
      return wet(0) + wet(1) + wet(2) + wet(3);
    }

    int lost() {
      int all = 0;
      for (int l = 0; l < lines.size(); l++) {
        all += falls(l);
      }
      return all - wetOfAll();
    }

    int hanging() {
      int set = 0;
      for (int l = 0; l < lines.size(); l++) {
        set |= readAt()[l] == NONE ? 1 << l : 0;
      }
      return set;
    }

    int falling() {
      int set = 0;
      for (int l = 0; l < lines.size(); l++) {
        set |= by(l) != NONE ? 1 << l : 0;
      }
      return set;
    }

    int mud() {
      return (1 << lines.size()) - 1 & ~hanging() & ~falling();
    }

    List<World> beginnings() {
      List<World> all = new ArrayList<>();
      begin(copied(), 0, all);
      return all;
    }

    private void begin(World w, int c, List<World> all) {
      if (c == criers.size()) {
        all.add(w);
        return;
      }
      for (int l = 0; l < lines.size(); l++) {
        World next = w.copied();
        next.criers.get(c)[2] = l;
        begin(next, c + 1, all);
      }
    }
  }

  private World now = new World();
  private final Object[] sheets = new Object[4];
  private final List<int[]> readings = new ArrayList<>();
  private int trace;
  private int fault;

  private boolean noShower() {
    return now.lines.isEmpty();
  }

  private boolean noLine(int l) {
    return l < 0 || l >= now.lines.size();
  }

  private boolean noCrier(int c) {
    return c < 0 || c >= now.criers.size();
  }

  private static boolean out(int v, int from, int to) {
    return v < from || v > to;
  }

  private int faulted(int number) {
    fault = number;
    return -10 - number;
  }

  private static int laneOf(Object row) {
    return row instanceof byte[] ? 0 : row instanceof short[] ? 1 : 2;
  }

  // Not by java.lang.reflect.Array: OpenJDK 17.0.15 crashes here once its calls are compiled.
  private static int lengthOf(Object row) {
    return row instanceof byte[] bytes ? bytes.length : row instanceof short[] shorts ? shorts.length : ((int[]) row).length;
  }

  private static boolean beyond(Object row, long i, long n) {
    return i < 0 || n < 0 || i + n > lengthOf(row) || i > lengthOf(row);
  }

  private static int at(Object row, int i) {
    return row instanceof byte[] bytes ? bytes[i] : row instanceof short[] shorts ? shorts[i] : ((int[]) row)[i];
  }

  int shower(int sheet, int lane, int i, int n) {
    fault = 0;
    if (out(sheet, 0, 3)) {
      return UNKNOWN;
    }
    if (out(lane, 0, 2)) {
      return OUTSIDE;
    }
    Object row = sheets[sheet];
    if (row == null) {
      return faulted(1);
    }
    if (laneOf(row) != lane) {
      return faulted(2);
    }
    if (n < 0) {
      return faulted(4);
    }
    if (beyond(row, i, n)) {
      return faulted(3);
    }
    StringBuilder text = new StringBuilder();
    for (int k = 0; k < n; k++) {
      int code = at(row, i + k);
      text.append(out(code, 0, 127) ? '?' : (char) code);
    }
    return taken(text.toString());
  }

  private int taken(String text) {
    for (int p = 1; p <= text.length(); p++) {
      if (!goesOn(text.substring(0, p))) {
        return -100 - (p - 1);
      }
    }
    if (!isText(text)) {
      return -100 - text.length();
    }
    World w = new World();
    String[] parts = text.substring(1).split(";");
    for (String line : parts[0].substring(1).split(",")) {
      w.lines.add(new int[] {line.charAt(0) - '0', line.charAt(1) - '0'});
    }
    for (int c = 1; c < parts.length; c++) {
      w.criers.add(new int[] {"pmc".indexOf(parts[c].charAt(0)), parts[c].charAt(1) - '0', parts[c].charAt(2) - '0'});
    }
    now = w;
    readings.clear();
    return w.criers.size();
  }

  private static final Pattern[] TEXTS = new Pattern[6];

  private static Matcher matcher(int lines, String text) {
    if (TEXTS[lines - 1] == null) {
      TEXTS[lines - 1] = Pattern.compile("s(,[0-9][0-3]){" + lines + "}(;[pmc][1-3][0-" + (lines - 1) + "]){1,3}");
    }
    return TEXTS[lines - 1].matcher(text);
  }

  private static boolean isText(String text) {
    for (int lines = 1; lines <= 6; lines++) {
      if (matcher(lines, text).matches()) {
        return true;
      }
    }
    return false;
  }

  private static boolean goesOn(String text) {
    for (int lines = 1; lines <= 6; lines++) {
      Matcher m = matcher(lines, text);
      if (m.matches() || m.hitEnd()) {
        return true;
      }
    }
    return false;
  }

  int ofLine(int l, int what) {
    if (noLine(l)) {
      return UNKNOWN;
    }
    if (out(what, 0, 4)) {
      return OUTSIDE;
    }
    return what < 2 ? now.lines.get(l)[what] : what == 2 ? now.readAt()[l] : what == 3 ? now.by(l) : now.falls(l);
  }

  int ofCrier(int c, int what) {
    if (noCrier(c)) {
      return UNKNOWN;
    }
    if (out(what, 0, 4)) {
      return OUTSIDE;
    }
    if (what < 3) {
      return now.criers.get(c)[what];
    }
    int set = 0;
    int last = NONE;
    for (int l = 0; l < now.lines.size(); l++) {
      set |= now.by(l) == c ? 1 << l : 0;
      for (int t = 0; t < 6; t++) {
        last = now.readersAt(l, t).contains(c) ? Math.max(last, t) : last;
      }
    }
    return what == 3 ? set : last;
  }

  int print(int l, int v) {
    if (noLine(l)) {
      return UNKNOWN;
    }
    if (out(v, 0, 9)) {
      return OUTSIDE;
    }
    int was = now.lines.get(l)[0];
    now.lines.get(l)[0] = v;
    return was;
  }

  int begin(int c, int l) {
    if (noCrier(c) || noLine(l)) {
      return UNKNOWN;
    }
    int was = now.criers.get(c)[2];
    now.criers.get(c)[2] = l;
    return was;
  }

  int cough(int f, int t) {
    if (out(f, 0, 3)) {
      return UNKNOWN;
    }
    if (out(t, 0, 5)) {
      return OUTSIDE;
    }
    if (noShower()) {
      return STATE;
    }
    now.coughs[f][t] = !now.coughs[f][t];
    return now.coughs[f][t] ? 1 : 0;
  }

  int comes(int f, int t) {
    if (out(f, 0, 3)) {
      return UNKNOWN;
    }
    if (out(t, 0, 5)) {
      return OUTSIDE;
    }
    return noShower() ? STATE : now.comes(f, t);
  }

  int wet(int f) {
    return out(f, 0, 3) ? UNKNOWN : noShower() ? STATE : now.wet(f);
  }

  int day(int sheet, int lane, int i, int n, int what) {
    fault = 0;
    if (out(sheet, 0, 3)) {
      return UNKNOWN;
    }
    if (out(lane, 0, 2) || out(n, 0, 20) || out(what, 0, 4) && out(what, 10, 13)) {
      return OUTSIDE;
    }
    if (noShower()) {
      return STATE;
    }
    Object row = sheets[sheet];
    if (row == null) {
      return faulted(1);
    }
    if (laneOf(row) != lane) {
      return faulted(2);
    }
    if (beyond(row, i, 2L * n)) {
      return faulted(3);
    }
    World w = now.copied();
    int wrong = NONE;
    for (int p = 0; p < n; p++) {
      int a = at(row, i + 2 * p);
      int b = at(row, i + 2 * p + 1);
      if (out(b, 0, 12) || out(a, 0, b < 6 ? 9 : 5)) {
        return OUTSIDE;
      }
      if (wrong == NONE && !act(w, a, b)) {
        wrong = p;
      }
    }
    if (what == 1) {
      return wrong;
    }
    if (wrong != NONE) {
      return -100 - wrong;
    }
    return what == 0 ? w.wetOfAll() : what == 2 ? w.hanging() : what == 3 ? w.mud() : what == 4 ? w.lost() : w.wet(what - 10);
  }

  private static boolean act(World w, int a, int b) {
    boolean can = b < 6 ? b < w.lines.size() : b > 8 || b - 6 < w.criers.size() && a < w.lines.size();
    if (can && b < 6) {
      w.lines.get(b)[0] = a;
    } else if (can && b < 9) {
      w.criers.get(b - 6)[2] = a;
    } else if (can) {
      w.coughs[b - 9][a] = !w.coughs[b - 9][a];
    }
    return can;
  }

  int whole(int k) {
    if (out(k, -1, 2)) {
      return OUTSIDE;
    }
    if (noShower()) {
      return STATE;
    }
    List<World> found = new ArrayList<>();
    for (World w : now.beginnings()) {
      if (w.falling() == (1 << w.lines.size()) - 1) {
        found.add(w);
      }
    }
    return k == -1 ? found.size() : found.isEmpty() || noCrier(k) ? NONE : found.get(0).criers.get(k)[2];
  }

  int most(int k) {
    if (out(k, -1, 2)) {
      return OUTSIDE;
    }
    if (noShower()) {
      return STATE;
    }
    World best = null;
    for (World w : now.beginnings()) {
      best = best == null || w.wetOfAll() > best.wetOfAll() ? w : best;
    }
    return k == -1 ? best.wetOfAll() : noCrier(k) ? NONE : best.criers.get(k)[2];
  }

  int strayed(int c, int what) {
    if (noCrier(c)) {
      return UNKNOWN;
    }
    if (out(what, 0, 1)) {
      return OUTSIDE;
    }
    int sure = what == 0 ? (1 << now.lines.size()) - 1 : 15;
    for (int l = 0; l < now.lines.size(); l++) {
      World w = now.copied();
      w.criers.get(c)[2] = l;
      int wet = (w.wet(0) > 0 ? 1 : 0) + (w.wet(1) > 0 ? 2 : 0) + (w.wet(2) > 0 ? 4 : 0) + (w.wet(3) > 0 ? 8 : 0);
      sure &= what == 0 ? w.falling() : wet;
    }
    return sure;
  }

  int saved(int set, int v) {
    if (out(set, 0, 15) || out(v, 0, 99)) {
      return OUTSIDE;
    }
    if (noShower()) {
      return STATE;
    }
    for (int many = 0; many <= 6; many++) {
      for (int hours = 0; hours < 64; hours++) {
        World w = now.copied();
        boolean all = Integer.bitCount(hours) == many;
        for (int f = 0; f < 4 && all; f++) {
          for (int t = 0; t < 6; t++) {
            w.coughs[f][t] = (set >> f & hours >> t & 1) == 1;
          }
        }
        for (int f = 0; f < 4 && all; f++) {
          all = (set >> f & 1) == 0 || w.wet(f) <= v;
        }
        if (all) {
          return many;
        }
      }
    }
    return NONE;
  }

  int misprint(int f, int v, int what) {
    if (out(f, 0, 3)) {
      return UNKNOWN;
    }
    if (out(v, 0, 99) || out(what, 0, 1)) {
      return OUTSIDE;
    }
    if (noShower()) {
      return STATE;
    }
    if (now.wet(f) >= v) {
      return what == 0 ? 0 : NONE;
    }
    int best = NONE;
    int line = NONE;
    for (int l = 0; l < now.lines.size(); l++) {
      for (int d = 0; d <= 9; d++) {
        World w = now.copied();
        w.lines.get(l)[0] = d;
        int by = Math.abs(d - now.lines.get(l)[0]);
        if (w.wet(f) >= v && (best == NONE || by < best)) {
          best = by;
          line = l;
        }
      }
    }
    return what == 0 ? best : line;
  }

  int rests(int f, int g, int t) {
    if (out(f, 0, 3) || out(g, 0, 3) || f == g) {
      return UNKNOWN;
    }
    if (out(t, 0, 5)) {
      return OUTSIDE;
    }
    if (noShower()) {
      return STATE;
    }
    int[][] pain = new int[4][2];
    for (int way = 0; way < 4; way++) {
      World w = now.copied();
      w.coughs[f][t] = way % 2 == 1;
      w.coughs[g][t] = way / 2 == 1;
      pain[way][0] = w.wet(f) + (w.coughs[f][t] ? 2 : 0);
      pain[way][1] = w.wet(g) + (w.coughs[g][t] ? 2 : 0);
    }
    int[] firstOther = {1, 0, 3, 2};
    int[] secondOther = {2, 3, 0, 1};
    int set = 0;
    for (int way = 0; way < 4; way++) {
      boolean leaves = pain[firstOther[way]][0] < pain[way][0] || pain[secondOther[way]][1] < pain[way][1];
      set |= leaves ? 0 : 1 << way;
    }
    return set;
  }

  int reading(int f, int v) {
    if (out(f, 0, 3)) {
      return UNKNOWN;
    }
    if (out(v, 0, 120)) {
      return OUTSIDE;
    }
    if (noShower()) {
      return STATE;
    }
    if (readings.size() == 8) {
      return FULL;
    }
    readings.add(new int[] {f, v});
    return readings.size() - 1;
  }

  int back(int k) {
    if (out(k, 0, readings.size())) {
      return OUTSIDE;
    }
    for (int j = 0; j < k; j++) {
      readings.remove(readings.size() - 1);
    }
    return readings.size();
  }

  /** Of a crier's part (0 kind, 1 pace, 2 start) the numbers from .. to by which all readings are so. */
  private int fitting(int c, int part, int from, int to) {
    if (noCrier(c)) {
      return UNKNOWN;
    }
    int set = 0;
    for (int v = from; v <= to; v++) {
      World w = now.copied();
      w.criers.get(c)[part] = v;
      boolean so = true;
      for (int[] reading : readings) {
        so &= w.wet(reading[0]) == reading[1];
      }
      set |= so ? 1 << v : 0;
    }
    return set;
  }

  int kinds(int c) {
    return fitting(c, 0, 0, 2);
  }

  int paces(int c) {
    return fitting(c, 1, 1, 3);
  }

  int starts(int c) {
    return fitting(c, 2, 0, now.lines.size() - 1);
  }

  long odds(int f, int v, int which) {
    if (out(f, 0, 3) || out(v, 0, 120) || out(which, 0, 1) || noShower()) {
      return Long.MIN_VALUE;
    }
    List<World> all = now.beginnings();
    int upper = 0;
    for (World w : all) {
      upper += w.wet(f) >= v ? 1 : 0;
    }
    int part = java.math.BigInteger.valueOf(upper).gcd(java.math.BigInteger.valueOf(all.size())).intValue();
    return which == 0 ? upper / part : all.size() / part;
  }

  int sheet(int k, int lane, int n) {
    fault = 0;
    if (out(k, 0, 3)) {
      return UNKNOWN;
    }
    if (out(lane, 0, 2) || n > 60) {
      return OUTSIDE;
    }
    if (n < 0) {
      return faulted(4);
    }
    sheets[k] = lane == 0 ? new byte[n] : lane == 1 ? new short[n] : (Object) new int[n];
    return 1;
  }

  int lose(int k) {
    if (out(k, 0, 3)) {
      return UNKNOWN;
    }
    int had = sheets[k] == null ? 0 : 1;
    sheets[k] = null;
    return had;
  }

  int put(int k, int i, int v) {
    fault = 0;
    if (out(k, 0, 3)) {
      return UNKNOWN;
    }
    Object row = sheets[k];
    if (row == null) {
      return faulted(1);
    }
    if (out(i, 0, lengthOf(row) - 1)) {
      return faulted(3);
    }
    if (row instanceof byte[] bytes) {
      bytes[i] = (byte) v;
    } else if (row instanceof short[] shorts) {
      shorts[i] = (short) v;
    } else if (row instanceof int[] ints) {
      ints[i] = v;
    }
    return 1;
  }

  long cell(int k, int i, int lane) {
    fault = 0;
    if (out(k, 0, 3) || out(lane, 0, 2)) {
      return Long.MIN_VALUE;
    }
    Object row = sheets[k];
    if (row != null && laneOf(row) != lane) {
      fault = 2;
    } else if (row == null) {
      fault = 1;
    } else if (out(i, 0, lengthOf(row) - 1)) {
      fault = 3;
    }
    return fault != 0 ? Long.MIN_VALUE : at(row, i);
  }

  int copy(int k, int i, int other, int j, int n) {
    fault = 0;
    if (out(k, 0, 3) || out(other, 0, 3)) {
      return UNKNOWN;
    }
    if (sheets[k] == null || sheets[other] == null) {
      return faulted(1);
    }
    if (laneOf(sheets[k]) != laneOf(sheets[other])) {
      return faulted(2);
    }
    if (beyond(sheets[k], i, n) || beyond(sheets[other], j, n)) {
      return faulted(3);
    }
    System.arraycopy(sheets[k], i, sheets[other], j, n);
    return n;
  }

  int tell(int c) {
    if (noCrier(c)) {
      return UNKNOWN;
    }
    int pace = now.criers.get(c)[1];
    int[][] bodies = {{1}, {2, 1}, {3, 2, 1, 1}};
    for (int body : bodies[now.criers.get(c)[0]]) {
      trace = trace * 31 + body;
    }
    return new int[] {pace, pace + 100, pace + 100 + pace}[now.criers.get(c)[0]];
  }

  int bribe(int c) {
    if (noCrier(c)) {
      return UNKNOWN;
    }
    boolean chants = now.criers.get(c)[0] == 2;
    trace = trace * 31 + (chants ? 5 : 4);
    return chants ? 60 : now.criers.get(c)[2];
  }

  int as(int c, int kind) {
    fault = 0;
    if (noCrier(c)) {
      return UNKNOWN;
    }
    if (out(kind, 0, 2)) {
      return OUTSIDE;
    }
    return kind > now.criers.get(c)[0] ? faulted(2) : 1;
  }

  int trace() {
    return trace;
  }

  int fault() {
    return fault;
  }

  int many(int what) {
    if (out(what, 0, 4)) {
      return OUTSIDE;
    }
    int coughs = 0;
    for (int f = 0; f < 4; f++) {
      for (int t = 0; t < 6; t++) {
        coughs += now.coughs[f][t] ? 1 : 0;
      }
    }
    int wet = noShower() ? 0 : now.wetOfAll();
    return new int[] {now.lines.size(), now.criers.size(), coughs, wet, readings.size()}[what];
  }
}
