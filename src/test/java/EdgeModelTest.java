import java.util.List;
import java.util.function.Supplier;

/**
 * Every call with every combination of the numbers at its arguments' edges, without a SHOWER, with one, and with all
 * READINGS: each answer is held against the Model's, and what is refused changes nothing.
 */
public final class EdgeModelTest {
  private static final Check C = new Check();
  private static final int LEAST = Check.LEAST, GREATEST = Check.GREATEST;
  private static final int MOST_CALLS = 120;
  private static final int[] SHEET = {LEAST, -1, 0, 1, 2, 3, 4, GREATEST};
  private static final int[] LANE = {LEAST, -1, 0, 1, 2, 3, GREATEST};
  private static final int[] CELL = {LEAST, -1, 0, 1, 2, 27, 28, 29, GREATEST};
  private static final int[] COUNT = {LEAST, -1, 0, 1, 27, 28, 29, GREATEST};
  private static final int[] LINE = {LEAST, -1, 0, 3, 4, 5, 6, GREATEST};
  private static final int[] CRIER = {LEAST, -1, 0, 1, 2, 3, GREATEST};
  private static final int[] FIELD = {LEAST, -1, 0, 1, 2, 3, 4, GREATEST};
  private static final int[] HOUR = {LEAST, -1, 0, 1, 5, 6, GREATEST};
  private static final int[] WHAT = {LEAST, -1, 0, 1, 2, 3, 4, 5, 6, GREATEST};
  private static final int[] PAIRS = {LEAST, -1, 0, 1, 2, 3, 20, 21, GREATEST};
  private static final int[] OF_DAY = {LEAST, -1, 0, 1, 2, 3, 4, 5, 9, 10, 11, 13, 14, GREATEST};
  private static final int[] ASKED_WET = {LEAST, -1, 0, 1, 17, 18, 98, 99, 100, GREATEST};
  private static final int[] WET = {LEAST, -1, 0, 1, 17, 18, 119, 120, 121, GREATEST};
  private static final int[] SET = {LEAST, -1, 0, 1, 8, 9, 15, 16, GREATEST};
  private static final int[] DROPS = {LEAST, -1, 0, 8, 9, 10, GREATEST};
  private static final int[] LENGTH = {LEAST, -1, 0, 1, 59, 60, 61, GREATEST};
  private static final int[] VALUE = {LEAST, -32769, -129, -128, 0, 127, 128, 255, 256, 32767, 32768, 65536, GREATEST};
  private static final int[] BACK = {LEAST, -1, 0, 1, 2, 3, 7, 8, 9, GREATEST};
  /** Calls that change something, if they are not refused. */
  private static final List<String> CHANGING = List.of("shower", "print", "begin", "cough", "reading", "back", "sheet",
      "lose", "put", "copy", "tell", "bribe");

  private final int room;
  private Both both;
  private int calls;

  private EdgeModelTest(int room) {
    this.room = room;
  }

  public static void main(String[] args) {
    for (int room = 0; room < 3; room++) {
      new EdgeModelTest(room).run();
    }
    C.end("EdgeModelTest");
  }

  private void run() {
    both = made();
    all("shower", SHEET, LANE, CELL, COUNT);
    all("ofLine", LINE, WHAT);
    all("ofCrier", CRIER, WHAT);
    all("print", LINE, DROPS);
    all("begin", CRIER, LINE);
    all("cough", FIELD, HOUR);
    all("comes", FIELD, HOUR);
    all("wet", FIELD);
    all("day", SHEET, LANE, CELL, PAIRS, OF_DAY);
    all("whole", WHAT);
    all("most", WHAT);
    all("strayed", CRIER, WHAT);
    all("saved", SET, ASKED_WET);
    all("misprint", FIELD, ASKED_WET, WHAT);
    all("rests", FIELD, FIELD, HOUR);
    all("reading", FIELD, WET);
    all("back", BACK);
    all("kinds", CRIER);
    all("paces", CRIER);
    all("starts", CRIER);
    all("odds", FIELD, WET, WHAT);
    all("sheet", SHEET, LANE, LENGTH);
    all("lose", SHEET);
    all("put", SHEET, CELL, VALUE);
    all("cell", SHEET, CELL, LANE);
    all("copy", SHEET, CELL, SHEET, CELL, COUNT);
    all("tell", CRIER);
    all("bribe", CRIER);
    all("as", CRIER, WHAT);
    all("trace");
    all("fault");
    all("many", WHAT);
    renew(true);
  }

  private void all(String name, int[]... edges) {
    int count = 1;
    for (int[] edge : edges) {
      count *= edge.length;
    }
    int[] args = new int[edges.length];
    for (int number = 0; number < count && !both.differed(); number++) {
      int rest = number;
      for (int k = 0; k < args.length; k++) {
        args[k] = edges[k][rest % edges[k].length];
        rest /= edges[k].length;
      }
      ask(name, args);
    }
  }

  private void ask(String name, int[] args) {
    long due = both.call(name, args);
    both.call("fault");
    calls += 2;
    if (CHANGING.contains(name) && due >= 0) {
      renew(false);
    } else if (calls >= MOST_CALLS) {
      renew(true);
    }
  }

  private void renew(boolean unchanged) {
    if (both.differed()) {
      return;
    }
    if (unchanged) {
      List<Supplier<RainRead>> rooms = List.of(Room::dry, Room::wet, Room::full);
      C.due("what is left of room " + room, Room.told(both.real), Room.told(rooms.get(room).get()));
    }
    both = made();
    calls = 0;
  }

  /** The rooms of Room, for the Model as well. */
  private Both made() {
    Both x = new Both(C);
    Room.make(room, x::call);
    return x;
  }
}
