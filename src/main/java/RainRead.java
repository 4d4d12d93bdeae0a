import java.util.Arrays;

/** Rain that is read aloud before it falls. ../shared/DOC.md says what each call promises. */
public final class RainRead {
  public static final int UNKNOWN = -1, OUTSIDE = -2, STATE = -3, FULL = -4, NONE = -9;
  public static final long LOST = Long.MIN_VALUE;

  private static final int FIELDS = 4, HOURS = 6, LINES = 6, CRIERS = 3;
  private static final int SHEETS = 4, CELLS = 60, LANES = 3, READINGS = 8;
  private static final int MOST_DROPS = 9, MOST_PACE = 3, MOST_READ = 120, MOST_ASKED = 99;
  private static final int MOST_PAIRS = 20, PAIN_OF_COUGH = 2;
  private static final int PLAIN = 0, MUMBLING = 1, CHANTING = 2;
  private static final int NO_FAULT = 0, NULL = 1, CAST = 2, INDEX = 3, SIZE = 4;
  /** The second number of a DAY's pair: LINES from 0, CRIERS and FIELDS from these on. */
  private static final int CRIER_ACTS = 6, FIELD_ACTS = 9, ACTS_END = 13;
  private static final int ASKED_FIELDS = 10;

  private final Shower now = new Shower();
  /** What would be otherwise is tried on this one, so that no call makes objects. */
  private final Shower trial = new Shower();
  private final Fall fall = new Fall();
  private final TextReader reader = new TextReader();
  private final Sheet[] sheets = new Sheet[SHEETS];
  private final int[] readingField = new int[READINGS];
  private final int[] readingWet = new int[READINGS];
  private int readingCount;
  private int traced;
  private int latestFault;

  public RainRead() {
    for (int k = 0; k < SHEETS; k++) {
      sheets[k] = new Sheet();
    }
  }

  // ---- 1 the shower

  public int shower(int sheet, int lane, int i, int n) {
    latestFault = NO_FAULT;
    if (!isSheet(sheet)) {
      return UNKNOWN;
    }
    if (!isLane(lane)) {
      return OUTSIDE;
    }
    Sheet row = sheets[sheet];
    int met = row.faultOfTaking(lane);
    if (met != NO_FAULT) {
      return faulted(met);
    }
    if (n < 0) {
      return faulted(SIZE);
    }
    if (!row.hasCells(i, n)) {
      return faulted(INDEX);
    }
    int wrong = reader.firstFault(row, i, n, trial);
    if (wrong != NONE) {
      return -100 - wrong;
    }
    now.become(trial);
    readingCount = 0;
    return now.crierCount;
  }

  public int ofLine(int l, int what) {
    if (!isLine(l)) {
      return UNKNOWN;
    }
    fall.workOut(now);
    switch (what) {
      case 0: return now.dropsOf[l];
      case 1: return now.fieldOf[l];
      case 2: return fall.hourOf[l];
      case 3: return fall.crierOf[l];
      case 4: return fall.amountOf[l];
      default: return OUTSIDE;
    }
  }

  public int ofCrier(int c, int what) {
    if (!isCrier(c)) {
      return UNKNOWN;
    }
    switch (what) {
      case 0: return now.kindOf[c];
      case 1: return now.paceOf[c];
      case 2: return now.startOf[c];
      case 3:
        fall.workOut(now);
        return fall.linesBy(c, now.lineCount);
      case 4: return now.hourOfReading(c, now.lineCount - 1);
      default: return OUTSIDE;
    }
  }

  public int print(int l, int v) {
    if (!isLine(l)) {
      return UNKNOWN;
    }
    if (!isWithin(v, MOST_DROPS)) {
      return OUTSIDE;
    }
    int was = now.dropsOf[l];
    now.dropsOf[l] = v;
    return was;
  }

  public int begin(int c, int l) {
    if (!isCrier(c) || !isLine(l)) {
      return UNKNOWN;
    }
    int was = now.startOf[c];
    now.startOf[c] = l;
    return was;
  }

  // ---- 2 coughs

  public int cough(int f, int t) {
    int refusal = refusalOf(f, isHour(t));
    if (refusal != 0) {
      return refusal;
    }
    now.turnCough(f, t);
    return now.coughs(f, t) ? 1 : 0;
  }

  public int comes(int f, int t) {
    int refusal = refusalOf(f, isHour(t));
    if (refusal != 0) {
      return refusal;
    }
    fall.workOut(now);
    return fall.cameTo[f * HOURS + t];
  }

  public int wet(int f) {
    int refusal = refusalOf(f, true);
    if (refusal != 0) {
      return refusal;
    }
    fall.workOut(now);
    return fall.wetOf[f];
  }

  public int day(int sheet, int lane, int i, int n, int what) {
    latestFault = NO_FAULT;
    if (!isSheet(sheet)) {
      return UNKNOWN;
    }
    if (!isLane(lane) || !isWithin(n, MOST_PAIRS) || !isAskedOfDay(what)) {
      return OUTSIDE;
    }
    if (!hasShower()) {
      return STATE;
    }
    Sheet row = sheets[sheet];
    int met = row.faultOfTaking(lane);
    if (met != NO_FAULT) {
      return faulted(met);
    }
    if (!row.hasCells(i, 2 * n)) {
      return faulted(INDEX);
    }
    if (!areActs(row, i, n)) {
      return OUTSIDE;
    }
    return answerOfDay(firstWrong(row, i, n), what);
  }

  /** Every pair is looked at ahead of any act: a refusal goes before a FIRST WRONG. */
  private boolean areActs(Sheet row, int i, int n) {
    for (int p = 0; p < n; p++) {
      if (!isAct(row.cells[i + 2 * p], row.cells[i + 2 * p + 1])) {
        return false;
      }
    }
    return true;
  }

  private boolean isAct(int first, int second) {
    if (second < 0 || second >= ACTS_END) {
      return false;
    }
    if (second < CRIER_ACTS) {
      return isWithin(first, MOST_DROPS);
    }
    return second < FIELD_ACTS ? isWithin(first, LINES - 1) : isHour(first);
  }

  /** Does a DAY's acts on the trial SHOWER, up to the first that can't be: its number, or NONE. */
  private int firstWrong(Sheet row, int i, int n) {
    trial.become(now);
    for (int p = 0; p < n; p++) {
      if (!trial.does(row.cells[i + 2 * p], row.cells[i + 2 * p + 1])) {
        return p;
      }
    }
    return NONE;
  }

  private int answerOfDay(int wrong, int what) {
    if (what == 1) {
      return wrong;
    }
    if (wrong != NONE) {
      return -100 - wrong;
    }
    fall.workOut(trial);
    switch (what) {
      case 0: return fall.wetOfAll();
      case 2: return fall.hanging;
      case 3: return fall.mud;
      case 4: return fall.lost;
      default: return fall.wetOf[what - ASKED_FIELDS];
    }
  }

  private static boolean isAskedOfDay(int what) {
    return isWithin(what, 4) || what >= ASKED_FIELDS && what < ASKED_FIELDS + FIELDS;
  }

  // ---- 3 what would be better

  public int whole(int k) {
    if (k < -1 || k >= CRIERS) {
      return OUTSIDE;
    }
    if (!hasShower()) {
      return STATE;
    }
    trial.become(now);
    int all = now.beginnings();
    int found = 0;
    int first = NONE;
    for (int b = 0; b < all; b++) {
      trial.beginBy(b);
      fall.workOut(trial);
      if (fall.hanging == 0 && fall.mud == 0) {
        found++;
        first = first == NONE ? b : first;
      }
    }
    return k == -1 ? found : startIn(first, k);
  }

  public int most(int k) {
    if (k < -1 || k >= CRIERS) {
      return OUTSIDE;
    }
    if (!hasShower()) {
      return STATE;
    }
    trial.become(now);
    int all = now.beginnings();
    int greatest = -1;
    int first = NONE;
    for (int b = 0; b < all; b++) {
      trial.beginBy(b);
      fall.workOut(trial);
      if (fall.wetOfAll() > greatest) {
        greatest = fall.wetOfAll();
        first = b;
      }
    }
    return k == -1 ? greatest : startIn(first, k);
  }

  /** START of a CRIER in a BEGINNING told by its number; NONE, if there is no such one. */
  private int startIn(int beginning, int c) {
    if (beginning == NONE || !isCrier(c)) {
      return NONE;
    }
    trial.beginBy(beginning);
    return trial.startOf[c];
  }

  public int strayed(int c, int what) {
    if (!isCrier(c)) {
      return UNKNOWN;
    }
    if (!isWithin(what, 1)) {
      return OUTSIDE;
    }
    trial.become(now);
    int sure = what == 0 ? (1 << now.lineCount) - 1 : (1 << FIELDS) - 1;
    for (int l = 0; l < now.lineCount; l++) {
      trial.startOf[c] = l;
      fall.workOut(trial);
      sure &= what == 0 ? ~(fall.hanging | fall.mud) : fall.wetFields();
    }
    return sure;
  }

  public int saved(int set, int v) {
    if (!isWithin(set, (1 << FIELDS) - 1) || !isWithin(v, MOST_ASKED)) {
      return OUTSIDE;
    }
    if (!hasShower()) {
      return STATE;
    }
    trial.become(now);
    int fewest = NONE;
    for (int hours = 0; hours < 1 << HOURS; hours++) {
      int count = Integer.bitCount(hours);
      if ((fewest == NONE || count < fewest) && savesBy(hours, set, v)) {
        fewest = count;
      }
    }
    return fewest;
  }

  private boolean savesBy(int hours, int set, int v) {
    for (int t = 0; t < HOURS; t++) {
      trial.coughsAt[t] = (hours >> t & 1) == 1 ? set : 0;
    }
    fall.workOut(trial);
    for (int f = 0; f < FIELDS; f++) {
      if ((set >> f & 1) == 1 && fall.wetOf[f] > v) {
        return false;
      }
    }
    return true;
  }

  public int misprint(int f, int v, int what) {
    int refusal = refusalOf(f, isWithin(v, MOST_ASKED) && isWithin(what, 1));
    if (refusal != 0) {
      return refusal;
    }
    fall.workOut(now);
    if (fall.wetOf[f] >= v) {
      return what == 0 ? 0 : NONE;
    }
    trial.become(now);
    for (int by = 1; by <= MOST_DROPS; by++) {
      for (int l = 0; l < now.lineCount; l++) {
        if (isWetBy(l, by, f, v)) {
          return what == 0 ? by : l;
        }
      }
    }
    return NONE;
  }

  /** Only more DROPS are tried: by fewer of them no FIELD gets wetter. */
  private boolean isWetBy(int l, int by, int f, int v) {
    int was = now.dropsOf[l];
    if (was + by > MOST_DROPS) {
      return false;
    }
    trial.dropsOf[l] = was + by;
    fall.workOut(trial);
    trial.dropsOf[l] = was;
    return fall.wetOf[f] >= v;
  }

  public int rests(int f, int g, int t) {
    if (!isField(f) || !isField(g) || f == g) {
      return UNKNOWN;
    }
    int refusal = refusalOf(f, isHour(t));
    if (refusal != 0) {
      return refusal;
    }
    trial.become(now);
    int found = 0;
    for (int way = 0; way < 4; way++) {
      boolean firstStays = painOfFirst(f, g, t, way) <= painOfFirst(f, g, t, way ^ 1);
      boolean secondStays = painOfSecond(f, g, t, way) <= painOfSecond(f, g, t, way ^ 2);
      if (firstStays && secondStays) {
        found |= 1 << way;
      }
    }
    return found;
  }

  private int painOfFirst(int f, int g, int t, int way) {
    coughInTrial(f, g, t, way);
    return fall.wetOf[f] + ((way & 1) == 1 ? PAIN_OF_COUGH : 0);
  }

  private int painOfSecond(int f, int g, int t, int way) {
    coughInTrial(f, g, t, way);
    return fall.wetOf[g] + ((way & 2) == 2 ? PAIN_OF_COUGH : 0);
  }

  private void coughInTrial(int f, int g, int t, int way) {
    int others = now.coughsAt[t] & ~(1 << f | 1 << g);
    trial.coughsAt[t] = others | (way & 1) << f | (way >> 1 & 1) << g;
    fall.workOut(trial);
  }

  // ---- 4 how wet it was

  public int reading(int f, int v) {
    int refusal = refusalOf(f, isWithin(v, MOST_READ));
    if (refusal != 0) {
      return refusal;
    }
    if (readingCount >= READINGS) {
      return FULL;
    }
    readingField[readingCount] = f;
    readingWet[readingCount] = v;
    readingCount++;
    return readingCount - 1;
  }

  public int back(int k) {
    if (!isWithin(k, readingCount)) {
      return OUTSIDE;
    }
    readingCount -= k;
    return readingCount;
  }

  public int kinds(int c) {
    return isCrier(c) ? fitting(c, trial.kindOf, PLAIN, CHANTING) : UNKNOWN;
  }

  public int paces(int c) {
    return isCrier(c) ? fitting(c, trial.paceOf, 1, MOST_PACE) : UNKNOWN;
  }

  public int starts(int c) {
    return isCrier(c) ? fitting(c, trial.startOf, 0, now.lineCount - 1) : UNKNOWN;
  }

  /** The numbers least .. greatest that a row of the trial SHOWER may have for a CRIER, so that all READINGS are so. */
  private int fitting(int c, int[] partOf, int least, int greatest) {
    trial.become(now);
    int found = 0;
    for (int v = least; v <= greatest; v++) {
      partOf[c] = v;
      fall.workOut(trial);
      found |= allReadingsAreSo() ? 1 << v : 0;
    }
    return found;
  }

  private boolean allReadingsAreSo() {
    for (int k = 0; k < readingCount; k++) {
      if (fall.wetOf[readingField[k]] != readingWet[k]) {
        return false;
      }
    }
    return true;
  }

  public long odds(int f, int v, int which) {
    if (refusalOf(f, isWithin(v, MOST_READ) && isWithin(which, 1)) != 0) {
      return LOST;
    }
    trial.become(now);
    int all = now.beginnings();
    int wetEnough = 0;
    for (int b = 0; b < all; b++) {
      trial.beginBy(b);
      fall.workOut(trial);
      wetEnough += fall.wetOf[f] >= v ? 1 : 0;
    }
    int part = commonPart(wetEnough, all);
    return which == 0 ? wetEnough / part : all / part;
  }

  /** The greatest number that divides both; never below 1, so that it may divide. */
  private static int commonPart(int upper, int lower) {
    for (int d = lower; d > 1; d--) {
      if (upper % d == 0 && lower % d == 0) {
        return d;
      }
    }
    return 1;
  }

  // ---- 5 sheets, parts

  public int sheet(int k, int lane, int n) {
    latestFault = NO_FAULT;
    if (!isSheet(k)) {
      return UNKNOWN;
    }
    if (!isLane(lane) || n > CELLS) {
      return OUTSIDE;
    }
    if (n < 0) {
      return faulted(SIZE);
    }
    sheets[k].renew(lane, n);
    return 1;
  }

  public int lose(int k) {
    if (!isSheet(k)) {
      return UNKNOWN;
    }
    int had = sheets[k].isThere ? 1 : 0;
    sheets[k].isThere = false;
    return had;
  }

  public int put(int k, int i, int v) {
    latestFault = NO_FAULT;
    if (!isSheet(k)) {
      return UNKNOWN;
    }
    Sheet row = sheets[k];
    if (!row.isThere) {
      return faulted(NULL);
    }
    if (!row.hasCell(i)) {
      return faulted(INDEX);
    }
    row.cells[i] = row.cut(v);
    return 1;
  }

  public long cell(int k, int i, int lane) {
    latestFault = NO_FAULT;
    if (!isSheet(k) || !isLane(lane)) {
      return LOST;
    }
    Sheet row = sheets[k];
    int met = row.faultOfTaking(lane);
    if (met == NO_FAULT && !row.hasCell(i)) {
      met = INDEX;
    }
    if (met != NO_FAULT) {
      latestFault = met;
      return LOST;
    }
    return row.cells[i];
  }

  public int copy(int k, int i, int other, int j, int n) {
    latestFault = NO_FAULT;
    if (!isSheet(k) || !isSheet(other)) {
      return UNKNOWN;
    }
    Sheet from = sheets[k];
    Sheet to = sheets[other];
    if (!from.isThere || !to.isThere) {
      return faulted(NULL);
    }
    if (from.lane != to.lane) {
      return faulted(CAST);
    }
    if (!from.hasCells(i, n) || !to.hasCells(j, n)) {
      return faulted(INDEX);
    }
    System.arraycopy(from.cells, i, to.cells, j, n);
    return n;
  }

  public int tell(int c) {
    if (!isCrier(c)) {
      return UNKNOWN;
    }
    switch (now.kindOf[c]) {
      case PLAIN: return plainTelling(c);
      case MUMBLING: return mumblingTelling(c);
      default: return chantingTelling(c);
    }
  }

  private int plainTelling(int c) {
    leave(1);
    return now.paceOf[c];
  }

  private int mumblingTelling(int c) {
    leave(2);
    return plainTelling(c) + 100;
  }

  private int chantingTelling(int c) {
    leave(3);
    int mumbled = mumblingTelling(c);
    return mumbled + plainTelling(c);
  }

  public int bribe(int c) {
    if (!isCrier(c)) {
      return UNKNOWN;
    }
    if (now.kindOf[c] == CHANTING) {
      leave(5);
      return 60;
    }
    leave(4);
    return now.startOf[c];
  }

  private void leave(int number) {
    traced = 31 * traced + number;
  }

  public int as(int c, int kind) {
    latestFault = NO_FAULT;
    if (!isCrier(c)) {
      return UNKNOWN;
    }
    if (!isWithin(kind, CHANTING)) {
      return OUTSIDE;
    }
    // Each kind is one of the kinds with lesser numbers, too.
    return now.kindOf[c] >= kind ? 1 : faulted(CAST);
  }

  public int trace() {
    return traced;
  }

  public int fault() {
    return latestFault;
  }

  public int many(int what) {
    switch (what) {
      case 0: return now.lineCount;
      case 1: return now.crierCount;
      case 2: return now.coughCount();
      case 3:
        fall.workOut(now);
        return fall.wetOfAll();
      case 4: return readingCount;
      default: return OUTSIDE;
    }
  }

  // ---- what the calls have in common

  private int faulted(int number) {
    latestFault = number;
    return -10 - number;
  }

  /** Of calls on a FIELD: the first refusal in their common order; 0, if there is none. */
  private int refusalOf(int f, boolean othersAreAsTold) {
    if (!isField(f)) {
      return UNKNOWN;
    }
    if (!othersAreAsTold) {
      return OUTSIDE;
    }
    return hasShower() ? 0 : STATE;
  }

  private boolean hasShower() {
    return now.lineCount > 0;
  }

  private boolean isLine(int l) {
    return l >= 0 && l < now.lineCount;
  }

  private boolean isCrier(int c) {
    return c >= 0 && c < now.crierCount;
  }

  private static boolean isField(int f) {
    return f >= 0 && f < FIELDS;
  }

  private static boolean isHour(int t) {
    return t >= 0 && t < HOURS;
  }

  private static boolean isSheet(int k) {
    return k >= 0 && k < SHEETS;
  }

  private static boolean isLane(int lane) {
    return lane >= 0 && lane < LANES;
  }

  private static boolean isWithin(int v, int greatest) {
    return v >= 0 && v <= greatest;
  }

  /** A SHOWER and who COUGHS; one without LINES stands for none. */
  private static final class Shower {
    int lineCount;
    int crierCount;
    final int[] dropsOf = new int[LINES];
    final int[] fieldOf = new int[LINES];
    final int[] kindOf = new int[CRIERS];
    final int[] paceOf = new int[CRIERS];
    final int[] startOf = new int[CRIERS];
    /** For each HOUR the set of FIELDS that COUGH. */
    final int[] coughsAt = new int[HOURS];

    void clear() {
      lineCount = 0;
      crierCount = 0;
      Arrays.fill(coughsAt, 0);
    }

    void become(Shower other) {
      lineCount = other.lineCount;
      crierCount = other.crierCount;
      System.arraycopy(other.dropsOf, 0, dropsOf, 0, LINES);
      System.arraycopy(other.fieldOf, 0, fieldOf, 0, LINES);
      System.arraycopy(other.kindOf, 0, kindOf, 0, CRIERS);
      System.arraycopy(other.paceOf, 0, paceOf, 0, CRIERS);
      System.arraycopy(other.startOf, 0, startOf, 0, CRIERS);
      System.arraycopy(other.coughsAt, 0, coughsAt, 0, HOURS);
    }

    /** The HOUR at which a CRIER reads a LINE; NONE: he begins behind it. */
    int hourOfReading(int c, int l) {
      int pace = paceOf[c];
      return l < startOf[c] || pace < 1 ? NONE : (l - startOf[c]) / pace;
    }

    int given(int c, int drops) {
      int mumbled = Math.max(drops - 1, 0);
      switch (kindOf[c]) {
        case PLAIN: return drops;
        case MUMBLING: return mumbled;
        default: return mumbled + drops;
      }
    }

    boolean coughs(int f, int t) {
      return (coughsAt[t] >> f & 1) == 1;
    }

    void turnCough(int f, int t) {
      coughsAt[t] ^= 1 << f;
    }

    int coughCount() {
      int count = 0;
      for (int t = 0; t < HOURS; t++) {
        count += Integer.bitCount(coughsAt[t]);
      }
      return count;
    }

    /** Where it goes what FALLS for a FIELD in an HOUR; NONE: it is lost. */
    int goesTo(int f, int t) {
      if (!coughs(f, t)) {
        return f;
      }
      int next = (f + 1) % FIELDS;
      return coughs(next, t) ? NONE : next;
    }

    int beginnings() {
      int count = 1;
      for (int c = 0; c < crierCount; c++) {
        count *= lineCount;
      }
      return count;
    }

    /** BEGINNINGS are numbered in their order, so the last CRIER's START changes fastest. */
    void beginBy(int number) {
      if (lineCount < 1) {
        return;
      }
      int rest = number;
      for (int c = crierCount - 1; c >= 0; c--) {
        startOf[c] = rest % lineCount;
        rest /= lineCount;
      }
    }

    /** Does one act of a DAY, whose numbers are as told; false: it can't be. */
    boolean does(int first, int second) {
      if (second < CRIER_ACTS) {
        if (second >= lineCount) {
          return false;
        }
        dropsOf[second] = first;
        return true;
      }
      if (second < FIELD_ACTS) {
        if (second - CRIER_ACTS >= crierCount || first >= lineCount) {
          return false;
        }
        startOf[second - CRIER_ACTS] = first;
        return true;
      }
      turnCough(second - FIELD_ACTS, first);
      return true;
    }
  }

  /** What becomes of a SHOWER; worked out anew for each question, on rows made once. */
  private static final class Fall {
    final int[] hourOf = new int[LINES];
    final int[] crierOf = new int[LINES];
    final int[] amountOf = new int[LINES];
    /** By FIELD, then HOUR. */
    final int[] cameTo = new int[FIELDS * HOURS];
    final int[] wetOf = new int[FIELDS];
    int hanging;
    int mud;
    int lost;

    void workOut(Shower s) {
      hanging = 0;
      mud = 0;
      lost = 0;
      Arrays.fill(cameTo, 0);
      Arrays.fill(wetOf, 0);
      for (int l = 0; l < s.lineCount; l++) {
        findReader(s, l);
        bringDown(s, l);
      }
    }

    private void findReader(Shower s, int l) {
      int least = NONE;
      int who = NONE;
      for (int c = 0; c < s.crierCount; c++) {
        int t = s.hourOfReading(c, l);
        if (t != NONE && (least == NONE || t < least)) {
          least = t;
          who = c;
        } else if (t != NONE && t == least) {
          who = NONE;
        }
      }
      hourOf[l] = least;
      crierOf[l] = who;
    }

    private void bringDown(Shower s, int l) {
      int t = hourOf[l];
      amountOf[l] = 0;
      if (t == NONE) {
        hanging |= 1 << l;
        return;
      }
      if (crierOf[l] == NONE) {
        mud |= 1 << l;
        return;
      }
      amountOf[l] = s.given(crierOf[l], s.dropsOf[l]);
      int f = s.goesTo(s.fieldOf[l], t);
      if (f == NONE) {
        lost += amountOf[l];
        return;
      }
      cameTo[f * HOURS + t] += amountOf[l];
      wetOf[f] += amountOf[l];
    }

    int linesBy(int c, int lineCount) {
      int set = 0;
      for (int l = 0; l < lineCount; l++) {
        set |= crierOf[l] == c ? 1 << l : 0;
      }
      return set;
    }

    int wetOfAll() {
      int all = 0;
      for (int f = 0; f < FIELDS; f++) {
        all += wetOf[f];
      }
      return all;
    }

    int wetFields() {
      int set = 0;
      for (int f = 0; f < FIELDS; f++) {
        set |= wetOf[f] > 0 ? 1 << f : 0;
      }
      return set;
    }
  }

  /** Takes a TEXT code by code; its place stays at the first code that no TEXT goes on with. */
  private static final class TextReader {
    private final int[] codes = new int[CELLS];
    private int count;
    private int place;

    /** The FIRST FAULT of n cells from i on, that there are; NONE: the SHOWER is as they tell. */
    int firstFault(Sheet row, int i, int n, Shower into) {
      System.arraycopy(row.cells, i, codes, 0, n);
      count = n;
      place = 0;
      into.clear();
      return isText(into) ? NONE : place;
    }

    private boolean isText(Shower into) {
      if (!takes('s')) {
        return false;
      }
      for (int l = 0; l < LINES && (l == 0 || isAt(',')); l++) {
        if (!takesLine(into, l)) {
          return false;
        }
      }
      for (int c = 0; c < CRIERS && (c == 0 || place < count); c++) {
        if (!takesCrier(into, c)) {
          return false;
        }
      }
      return place == count;
    }

    private boolean takesLine(Shower into, int l) {
      if (!takes(',')) {
        return false;
      }
      int drops = takenDigit(0, MOST_DROPS);
      int field = drops == NONE ? NONE : takenDigit(0, FIELDS - 1);
      if (field == NONE) {
        return false;
      }
      into.dropsOf[l] = drops;
      into.fieldOf[l] = field;
      into.lineCount = l + 1;
      return true;
    }

    private boolean takesCrier(Shower into, int c) {
      if (!takes(';')) {
        return false;
      }
      int kind = takenKind();
      int pace = kind == NONE ? NONE : takenDigit(1, MOST_PACE);
      int start = pace == NONE ? NONE : takenDigit(0, into.lineCount - 1);
      if (start == NONE) {
        return false;
      }
      into.kindOf[c] = kind;
      into.paceOf[c] = pace;
      into.startOf[c] = start;
      into.crierCount = c + 1;
      return true;
    }

    private boolean isAt(char code) {
      return place < count && codes[place] == code;
    }

    private boolean takes(char code) {
      boolean is = isAt(code);
      place += is ? 1 : 0;
      return is;
    }

    private int takenKind() {
      if (takes('p')) {
        return PLAIN;
      }
      if (takes('m')) {
        return MUMBLING;
      }
      return takes('c') ? CHANTING : NONE;
    }

    private int takenDigit(int least, int greatest) {
      if (place >= count || codes[place] < '0' + least || codes[place] > '0' + greatest) {
        return NONE;
      }
      place++;
      return codes[place - 1] - '0';
    }
  }

  /** A row of numbers of a LANE, or nothing; the cells are kept, so that a new row makes none. */
  private static final class Sheet {
    final int[] cells = new int[CELLS];
    boolean isThere;
    int lane;
    int count;

    void renew(int newLane, int n) {
      Arrays.fill(cells, 0);
      isThere = true;
      lane = newLane;
      count = n;
    }

    int faultOfTaking(int asked) {
      if (!isThere) {
        return NULL;
      }
      return lane == asked ? NO_FAULT : CAST;
    }

    boolean hasCell(int i) {
      return i >= 0 && i < count;
    }

    boolean hasCells(int i, int n) {
      return i >= 0 && i <= count && n >= 0 && n <= count - i;
    }

    int cut(int v) {
      switch (lane) {
        case 0: return (byte) v;
        case 1: return (short) v;
        default: return v;
      }
    }
  }
}
