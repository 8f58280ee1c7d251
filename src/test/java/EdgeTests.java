import java.util.ArrayList;
import java.util.Arrays;
import java.util.List;

/**
 * The promises' edges. Every argument of every call just outside, far outside and at both ends
 * of what it may be; of several refusals the first that the words name; and, by two objects that
 * were made alike, that a refused call changes nothing, and neither does one that asks.
 */
public final class EdgeTests {
  private static final int MIN = Integer.MIN_VALUE, MAX = Integer.MAX_VALUE;
  private static final int NONE = -1, BAD = -2, STATE = -3, FULL = -4, ABSENT = -5, NOTHING = -11, CAST = -12, PLACE = -13, SIZE = -14;
  private static final long NO = Long.MIN_VALUE;
  private static int wrong = 0, asked = 0;
  private static String words = "";
  private static SailCourses x;

  public static void main(String[] args) {
    for (Call call : CALLS) {
      insideIsAnswered(call);
      for (int setUp = 0; setUp < SET_UPS; setUp++) {
        outsideIsRefused(call, setUp);
        firstNamedIsAnswered(call, setUp);
        refusedChangesNothing(call, setUp);
      }
    }
    fullAndState();
    for (int setUp = 0; setUp < SET_UPS; setUp++) {
      askedChangesNothing(setUp);
      refusedClausesChangeNothing(setUp);
    }
    sentences();
    System.out.println(wrong == 0 ? "edges: all " + asked + " answers are as due" : "edges: " + wrong + " of " + asked + " answers are not as due");
    if (wrong != 0) System.exit(1);
  }

  private static void due(String call, long got, long want) {
    asked++;
    if (got == want) return;
    wrong++;
    System.out.println(words + ": " + call + " answered " + got + ", due is " + want);
  }

  // ---- the calls, and what their arguments may be

  private interface Ask { long of(SailCourses x, int[] a); }

  /** Argument number arg may be low .. high; what is answered below that, and above it. */
  private record Range(int arg, int low, int high, long below, long above) { }

  /** The ranges stand in the order in which the words name them. */
  private record Call(String name, Ask ask, int[] good, List<Range> ranges) { }

  private static Range none(int arg, int low, int high) { return new Range(arg, low, high, NONE, NONE); }
  private static Range bad(int arg, int low, int high) { return new Range(arg, low, high, BAD, BAD); }
  private static Range no(int arg, int low, int high) { return new Range(arg, low, high, NO, NO); }
  private static int[] good(int... a) { return a; }

  private static final List<Call> CALLS = List.of(
      new Call("wind", (x, a) -> x.wind(a[0], a[1], a[2], a[3]), good(0, 0, 0, 2), List.of(none(0, 0, 3), none(1, 0, 3), bad(2, 0, 7), bad(3, 0, 3))),
      new Call("current", (x, a) -> x.current(a[0], a[1], a[2]), good(0, 0, 0), List.of(none(0, 0, 3), bad(1, 0, 7), bad(2, 0, 3))),
      new Call("table", (x, a) -> x.table(a[0], a[1], a[2]), good(1, 0, 0), List.of(none(0, 1, 3), none(1, 0, 4), bad(2, 0, 9))),
      new Call("land not", (x, a) -> x.land(a[0], false), good(1), List.of(none(0, 0, 35))),
      new Call("land", (x, a) -> x.land(a[0], a[0] != x.told(2)), good(1), List.of(none(0, 0, 35))),
      new Call("start", (x, a) -> x.start(a[0], a[1], a[2]), good(0, 0, 0), List.of(none(0, 0, 35), none(1, 0, 1), bad(2, 0, 9999))),
      new Call("loss", (x, a) -> x.loss(a[0], a[1]), good(0, 5), List.of(none(0, 0, 1), bad(1, 0, 60))),
      new Call("steer", (x, a) -> x.steer(a[0]), good(0), List.of(none(0, -1, 7))),
      new Call("feed", (x, a) -> x.feed(a[0]), good(108), List.of(bad(0, 0, 127))),
      new Call("of", (x, a) -> x.of(a[0], a[1], a[2]), good(0, 0, 0), List.of(none(0, 0, 3), none(1, 0, 3), none(2, 0, 3))),
      new Call("speed", (x, a) -> x.speed(a[0], a[1]), good(1, 0), List.of(none(0, 1, 3), none(1, 0, 4))),
      new Call("told", (x, a) -> x.told(a[0]), good(0), List.of(none(0, 0, 8))),
      new Call("pace", (x, a) -> x.pace(a[0], a[1], a[2]), good(0, 0, 0), List.of(none(0, 0, 35), none(1, 0, 7), bad(2, 0, 9999))),
      new Call("leg", (x, a) -> x.leg(a[0], a[1], a[2], a[3], a[4]), good(0, 0, 4, 0, 0),
          List.of(none(0, 0, 35), none(1, 0, 1), none(2, 0, 7), none(4, 0, 2), bad(3, 0, 9999))),
      new Call("least", (x, a) -> x.least(a[0], a[1]), good(0, 0), List.of(none(0, 0, 35), none(1, 0, 2))),
      new Call("last", (x, a) -> x.last(a[0], a[1]), good(0, 0), List.of(none(0, 0, 35), none(1, 0, 1))),
      new Call("course", (x, a) -> x.course(a[0], a[1]), good(0, -1), List.of(none(0, 0, 35), none(1, -1, MAX))),
      new Call("reckon", (x, a) -> x.reckon(a[0], a[1]), good(0, 0), List.of(no(0, 0, 1), no(1, 0, 1))),
      new Call("meanPace", (x, a) -> x.meanPace(a[0]), good(0), List.of(no(0, 0, 35))),
      new Call("see", (x, a) -> x.see(a[0], a[1]), good(0, 0), List.of(none(0, -1, 35), bad(1, 0, 99999))),
      new Call("fits", (x, a) -> x.fits(a[0], a[1], a[2]), good(0, 0, 0), List.of(none(0, 0, 3), none(1, 0, 3), none(2, 0, 1))),
      new Call("odds", (x, a) -> x.odds(a[0], a[1], a[2], a[3], a[4]), good(0, 0, 0, 0, 0),
          List.of(no(0, 0, 3), no(1, 0, 3), no(2, 0, 35), no(3, 0, 99999), no(4, 0, 1))),
      new Call("mean", (x, a) -> x.mean(a[0]), good(0), List.of(no(0, 0, 1))),
      new Call("event", (x, a) -> x.event(a[0], a[1]), good(0, 0), List.of(none(0, -1, 3), none(1, 0, 3))),
      new Call("event 1", (x, a) -> x.event(1, a[0]), good(0), List.of(none(0, 0, 3))),
      new Call("event 2", (x, a) -> x.event(2, a[0]), good(0), List.of(bad(0, 0, 7))),
      new Call("event 3", (x, a) -> x.event(3, a[0]), good(0), List.of(none(0, 0, 3))),
      new Call("after", (x, a) -> x.after(a[0]), good(0), List.of(none(0, 0, 2))),
      new Call("book", (x, a) -> x.book(a[0], a[1]), good(0, 0), List.of(none(0, -1, 35), bad(1, 0, 99999))),
      new Call("judge", (x, a) -> x.judge(a[0], a[1]), good(2, 0), List.of(none(0, 0, 5))),
      new Call("count", (x, a) -> x.count(a[0]), good(0), List.of(bad(0, 0, 4))),
      new Call("tape", (x, a) -> x.tape(a[0], a[1], a[2]), good(0, 0, 0), List.of(none(0, 0, 5), bad(1, -1, 4), new Range(2, 0, 60, SIZE, BAD))),
      new Call("item", (x, a) -> x.item(a[0], a[1], a[2]), good(0, 0, 0), List.of(none(0, 0, 5))),
      new Call("peek", (x, a) -> x.peek(a[0], a[1]), good(0, 0), List.of(no(0, 0, 5))),
      new Call("shift", (x, a) -> x.shift(a[0], a[1], a[2], a[3], a[4]), good(0, 0, 0, 0, 0), List.of(none(0, 0, 5), none(2, 0, 5))));

  /** Just outside, far outside, and such as come back inside where bits are cut off. */
  private static int[] outside(Range range) {
    int[] tried = {range.low - 1, range.low - 2, range.high + 1, range.high + 2, range.low - 64, range.low - 256, range.low - 65536,
        range.low + 64, range.low + 128, range.low + 256, range.low + 65536, range.low + 131072, range.low ^ MIN, MIN, MIN + 1, MAX, MAX - 1};
    return Arrays.stream(tried).filter(v -> v < range.low || v > range.high).toArray();
  }

  private static int[] with(int[] good, int arg, int v) {
    int[] a = good.clone();
    a[arg] = v;
    return a;
  }

  private static long refusal(Range range, int v) { return v < range.low ? range.below : range.above; }

  private static void insideIsAnswered(Call call) {
    words = call.name;
    for (Range range : call.ranges) {
      int[] inside = {range.low, range.high, range.low + 1, range.high - 1};
      for (int v : inside) {
        if (v < range.low || v > range.high) continue;
        x = new SailCourses();
        x.tape(2, 2, 3);
        for (int tape = 3; tape < 6; tape++) x.tape(tape, 0, 1);
        x.tape(0, 0, 1);
        x.tape(1, 0, 1);
        long got = call.ask.of(x, with(call.good, range.arg, v));
        // NONE, BAD, STATE, FULL, NO and SIZE are what the range would be refused by.
        boolean refused = got < 0 && got >= FULL || got == NO || got == SIZE;
        due(Arrays.toString(with(call.good, range.arg, v)) + " is refused", refused ? 1 : 0, 0);
      }
    }
  }

  private static void outsideIsRefused(Call call, int setUp) {
    words = call.name + " in set-up " + setUp;
    for (Range range : call.ranges) {
      x = made(setUp);
      for (int v : outside(range)) {
        int[] a = with(call.good, range.arg, v);
        due(Arrays.toString(a), call.ask.of(x, a), refusal(range, v));
      }
    }
  }

  private static void firstNamedIsAnswered(Call call, int setUp) {
    words = call.name + " in set-up " + setUp + ", both refused";
    x = made(setUp);
    for (Range first : call.ranges) {
      for (Range second : call.ranges) {
        if (call.ranges.indexOf(first) >= call.ranges.indexOf(second)) continue;
        for (int v : new int[] {first.low - 1, first.high + 1}) {
          for (int w : new int[] {second.low - 1, second.high + 1}) {
            if (v >= first.low && v <= first.high || w >= second.low && w <= second.high) continue;
            int[] a = with(with(call.good, first.arg, v), second.arg, w);
            due(Arrays.toString(a), call.ask.of(x, a), refusal(first, v));
          }
        }
      }
    }
  }

  // ---- what is refused, or asked, changes nothing

  private static final int SET_UPS = 3;
  private static final String FULL_TEXT = "b100000;b100000;b100000;b100000;b100000;b100000;b112345;"
      + "s0000000;s0000000;s0000000;s0000000;s3419999";

  /** 0: as at first; 1: some of all; 2: as much as there may be of all. */
  private static SailCourses made(int setUp) {
    SailCourses made = new SailCourses();
    if (setUp == 0) return made;
    made.land(7, true);
    made.steer(6);
    made.see(1, 119);
    made.event(0, 3);
    made.book(3, 3);
    made.image();
    for (int cell = 0; cell < 16; cell++) made.wind(cell / 4, cell % 4, cell * 5 % 8, 1 + cell % 3);
    for (int zone = 0; zone < 4; zone++) made.current(zone, zone + 2, 3 - zone);
    made.table(2, 0, 1);
    made.table(3, 4, 8);
    made.loss(0, 12);
    made.loss(1, 34);
    made.land(35, true);
    made.land(20, true);
    made.start(8, 1, 350);
    if (setUp == 1) some(made); else all(made);
    return made;
  }

  private static void some(SailCourses made) {
    made.steer(3);
    made.see(14, made.least(14, 2));
    made.event(2, 3);
    made.event(1, 1);
    made.book(-1, 0);
    made.book(14, made.least(14, 2));
    for (char sign : "t1,".toCharArray()) made.feed(sign);
    for (int tape = 0; tape < 5; tape++) {
      made.tape(tape, tape, 4);
      for (int i = 0; i < 4; i++) made.item(tape, i, 10 * tape + i);
    }
  }

  private static void all(SailCourses made) {
    for (int n = 1; n < 8; n++) made.steer(n);
    for (int n = 1; n < 5; n++) made.see(14 + n, made.least(14 + n, 2));
    for (int n = 1; n < 8; n++) made.event(n % 3 + 1, n % 4);
    made.book(-1, 0);
    for (int n = 21; n < 29; n++) made.book(n, made.least(n, 2));
    for (char sign : FULL_TEXT.toCharArray()) made.feed(sign);
    for (int tape = 0; tape < 6; tape++) {
      made.tape(tape, 2, 60);
      made.item(tape, 0, tape);
      made.item(tape, 59, tape + 1);
    }
  }

  /** All that can be asked, and then what THE TEXT and THE IMAGE hold. */
  private static long[] seenOf(SailCourses made) {
    List<Long> seen = new ArrayList<>();
    for (int what = 0; what < 5; what++) seen.add((long) made.count(what));
    for (int tape = 0; tape < 6; tape++) {
      for (int i : new int[] {0, 1, 2, 3, 4, 59}) seen.add(made.peek(tape, i));
      seen.add((long) made.judge(tape, 0));
    }
    seaOf(made, seen);
    for (int square = 0; square < 36; square++) {
      seen.add((long) made.least(square, 0));
      seen.add((long) made.least(square, 1));
    }
    seen.add((long) made.read());
    for (int what = 0; what < 6; what++) seen.add((long) made.told(what));
    seen.add((long) made.undo());
    for (int what = 0; what < 5; what++) seen.add((long) made.count(what));
    seaOf(made, seen);
    return seen.stream().mapToLong(v -> v).toArray();
  }

  private static void seaOf(SailCourses made, List<Long> seen) {
    for (int what = 0; what < 9; what++) seen.add((long) made.told(what));
    for (int cell = 0; cell < 16; cell++) {
      for (int what = 0; what < 2; what++) seen.add((long) made.of(cell / 4, cell % 4, what));
    }
    for (int zone = 0; zone < 4; zone++) for (int what = 2; what < 4; what++) seen.add((long) made.of(zone, 0, what));
    for (int i = 0; i < 15; i++) seen.add((long) made.speed(1 + i / 5, i % 5));
    for (int what = 0; what < 4; what++) seen.add(made.reckon(what / 2, what % 2));
    for (int what = 0; what < 4; what++) seen.add((long) made.fits(what / 2, what / 2, what % 2));
    for (int what = 0; what < 3; what++) seen.add((long) made.after(what));
    seen.add((long) made.looked());
    seen.add(made.mean(0));
  }

  private static final long[][] UNTOUCHED = {seenOf(made(0)), seenOf(made(1)), seenOf(made(2))};

  private static void dueAsMade(String call, SailCourses touched, int setUp) {
    asked++;
    long[] now = seenOf(touched);
    for (int i = 0; i < now.length; i++) {
      if (now[i] == UNTOUCHED[setUp][i]) continue;
      wrong++;
      System.out.println(call + " in set-up " + setUp + " changed what is seen " + i + ": " + now[i] + ", due is " + UNTOUCHED[setUp][i]);
      return;
    }
  }

  private static void refusedChangesNothing(Call call, int setUp) {
    for (Range range : call.ranges) {
      for (int v : outside(range)) {
        if (v != range.low - 1 && v != range.high + 1 && v != MIN && v != MAX && v != range.low + 64) continue;
        int[] a = with(call.good, range.arg, v);
        SailCourses touched = made(setUp);
        call.ask.of(touched, a);
        dueAsMade("refused " + call.name + Arrays.toString(a), touched, setUp);
      }
    }
  }

  private static void dueRefused(String name, Ask ask, int setUp, long want) {
    SailCourses touched = made(setUp);
    words = name + " in set-up " + setUp;
    due("it", ask.of(touched, null), want);
    dueAsMade("refused " + name, touched, setUp);
  }

  private static void fullAndState() {
    words = "set-up 2";
    int[] most = {5, 8, 8, 100, 8};
    for (int what = 0; what < 5; what++) due("count " + what, made(2).count(what), most[what]);
    dueRefused("land at START", (x, a) -> x.land(0, true), 0, STATE);
    dueRefused("start of LAND", (x, a) -> x.start(7, 0, 0), 1, STATE);
    dueRefused("undo without image", (x, a) -> x.undo(), 0, STATE);
    for (int setUp = 1; setUp < SET_UPS; setUp++) {
      dueRefused("land at START", (x, a) -> x.land(8, true), setUp, STATE);
      dueRefused("start of LAND", (x, a) -> x.start(20, 0, 0), setUp, STATE);
      dueRefused("start of LAND", (x, a) -> x.start(35, 1, 9999), setUp, STATE);
    }
    dueRefused("steer", (x, a) -> x.steer(0), 2, FULL);
    dueRefused("feed", (x, a) -> x.feed(';'), 2, FULL);
    dueRefused("feed", (x, a) -> x.feed(0), 2, FULL);
    dueRefused("see", (x, a) -> x.see(0, 0), 2, FULL);
    for (int what = 0; what < 4; what++) {
      int event = what;
      dueRefused("event", (x, a) -> x.event(event, 1), 2, FULL);
    }
    dueRefused("book", (x, a) -> x.book(0, 0), 2, FULL);
    tapesRefused();
  }

  private static void tapesRefused() {
    dueRefused("item", (x, a) -> x.item(0, 0, 1), 0, NOTHING);
    dueRefused("item", (x, a) -> x.item(5, 0, 1), 1, NOTHING);
    dueRefused("item", (x, a) -> x.item(5, -1, 1), 1, NOTHING);
    dueRefused("shift", (x, a) -> x.shift(0, 0, 5, 0, 1), 1, NOTHING);
    dueRefused("shift", (x, a) -> x.shift(5, 0, 0, 0, 1), 1, NOTHING);
    dueRefused("shift", (x, a) -> x.shift(5, 0, 5, 0, 0), 1, NOTHING);
    for (int one = 0; one < 5; one++) {
      for (int other = 0; other < 5; other++) {
        int tape = one, to = other;
        if (one != other) dueRefused("shift of unlike sorts", (x, a) -> x.shift(tape, 0, to, 0, 0), 1, CAST);
        if (one != other) dueRefused("shift of unlike sorts", (x, a) -> x.shift(tape, -1, to, 9, MAX), 1, CAST);
      }
    }
    for (int i : new int[] {-1, 4, 5, 59, 60, 256, MIN, MAX}) dueRefused("item " + i, (x, a) -> x.item(3, i, 1), 1, PLACE);
    for (int i : new int[] {-1, 60, 61, MIN, MAX}) dueRefused("item " + i, (x, a) -> x.item(0, i, 1), 2, PLACE);
    int[][] places = {{-1, 0, 1}, {0, -1, 1}, {0, 0, -1}, {4, 0, 1}, {0, 4, 1}, {5, 0, 0}, {0, 5, 0}, {0, 0, 5}, {1, 0, 4}, {0, 1, 4},
        {MAX, 0, 1}, {0, MAX, 1}, {1, 1, MAX}, {MAX, MAX, MAX}, {MIN, 0, 1}, {0, MIN, 1}, {0, 0, MIN}, {2, 0, MAX - 1}, {-1, 1, 0}, {1, -1, 0}};
    for (int[] p : places) {
      dueRefused("shift " + Arrays.toString(p), (x, a) -> x.shift(3, p[0], 3, p[1], p[2]), 1, PLACE);
    }
    for (int n : new int[] {-1, -2, -60, MIN}) dueRefused("tape of " + n, (x, a) -> x.tape(3, 3, n), 1, SIZE);
    for (int n : new int[] {61, 62, 256, MAX}) dueRefused("tape of " + n, (x, a) -> x.tape(3, 3, n), 1, BAD);
    for (int tape = 0; tape < 5; tape++) {
      int of = tape;
      if (tape != 2) dueRefused("judge", (x, a) -> x.judge(of, 0), 1, CAST);
      if (tape != 2) dueRefused("judge", (x, a) -> x.judge(of, -1), 1, CAST);
      if (tape != 2) dueRefused("judge", (x, a) -> x.judge(of, MAX), 1, CAST);
    }
  }

  private static void askedChangesNothing(int setUp) {
    List<Ask> asks = new ArrayList<>();
    for (int n = 0; n < 9; n++) {
      int w = n;
      asks.add((x, a) -> x.of(w % 4, 3 - w % 4, w % 4));
      asks.add((x, a) -> x.speed(1 + w % 3, w % 5));
      asks.add((x, a) -> x.told(w));
      asks.add((x, a) -> x.pace(4 * w, w % 8, 1111 * w));
      asks.add((x, a) -> x.leg(4 * w, w % 2, w % 8, 1111 * w, w % 3));
      asks.add((x, a) -> x.least(4 * w, w % 3));
      asks.add((x, a) -> x.last(4 * w, w % 2));
      asks.add((x, a) -> x.course(4 * w, w - 1));
      asks.add((x, a) -> x.reckon(w % 2, w / 2 % 2));
      asks.add((x, a) -> x.meanPace(4 * w));
      asks.add((x, a) -> x.fits(w % 4, w / 2 % 4, w % 2));
      asks.add((x, a) -> x.odds(w % 4, w / 2 % 4, 4 * w, 11111 * w, w % 2));
      asks.add((x, a) -> x.mean(w % 2));
      asks.add((x, a) -> x.after(w % 3));
      asks.add((x, a) -> x.looked());
      asks.add((x, a) -> x.judge(w % 6, w / 6));
      asks.add((x, a) -> x.count(w % 5));
      asks.add((x, a) -> x.peek(w % 6, w));
    }
    SailCourses together = made(setUp == 2 ? 0 : setUp);
    for (int n = 0; n < asks.size(); n++) {
      SailCourses touched = made(setUp);
      asks.get(n).of(touched, null);
      dueAsMade("asked " + n, touched, setUp);
      if (n % 2 == 0) asks.get(n).of(together, null);
    }
    dueAsMade("asked all", together, setUp == 2 ? 0 : setUp);
  }

  private static void readAll(SailCourses sea, String text) {
    for (char sign : text.toCharArray()) sea.feed(sign);
    words = "read of " + text;
  }

  private static void refusedClausesChangeNothing(int setUp) {
    if (setUp == 2) return;
    String[] texts = {"w4000;w0400;w0080;w0004;w9999", "c400;c080;c004;c999", "b000000;b400000;b999999", "l36;l99;l64", "s3600;s0020;s9999999",
        "t61,60;t60,61;t99,99", "w0011;w0011;x", "l01;l02;l03;", "t1,1;t2,2;t3", "b112345;c0", "s0119;s021", setUp == 0 ? "l00" : "l08;s0700;s2000;s3500"};
    for (String text : texts) {
      SailCourses touched = new SailCourses();
      SailCourses untouched = new SailCourses();
      if (setUp == 1) {
        touched = made(1);
        untouched = made(1);
        touched.read();
        untouched.read();
      }
      readAll(touched, text);
      due("done", Math.max(touched.read(), 0), 0);
      due("all is as before", Arrays.equals(seenOf(touched), seenOf(untouched)) ? 1 : 0, 1);
    }
  }

  // ---- sentences of the promises, one by one

  private static void sentence(String says, Runnable test) {
    words = "\"" + says + "\"";
    x = new SailCourses();
    test.run();
  }

  private static void sentences() {
    sentence("All as at first", EdgeTests::newBesideOthers);
    sentence("An object is used for at most 512 calls after it has been made", EdgeTests::fiveHundredAndTwelve);
    sentence("10 times the FROM and the FORCE that were", EdgeTests::windThatWas);
    sentence("STATE: START is there (and it would be LAND)", EdgeTests::landAtStart);
    sentence("NONE: square, side; BAD: minute; STATE: it is LAND", EdgeTests::startOfLand);
    sentence("START becomes so: how many SQUARES have LEAST then", EdgeTests::startHowMany);
    sentence("(heading -1: none then, 0, whatever the rest is). NONE; FULL: 8", EdgeTests::steerFull);
    sentence("A sign (0 .. 127) comes behind THE TEXT's: how many it has. BAD; FULL", EdgeTests::feedFull);
    sentence("THE TEXT, which is empty then (by a FAULT, too)", EdgeTests::readEmpties);
    sentence("7 the greatest LEAST of these, 8 the SQUARE with that, of several the least", EdgeTests::toldOfSeveral);
    sentence("PACE from a SQUARE (LAND, or none beside, does not matter)", EdgeTests::paceOfLand);
    sentence("-5: there is none. NONE: square (LAND, too)", EdgeTests::legOfLand);
    sentence("LEAST of a SQUARE with a SIDE (2: of the SQUARE); -5: none", EdgeTests::leastOfSides);
    sentence("100 times the SQUARE, 10 times the SIDE and the HEADING, together; -5: it has no LEAST, or is START", EdgeTests::lastParts);
    sentence("how many (k -1); -5: no LEAST, or there are not so many", EdgeTests::courseEnds);
    sentence("Bits of MEAN PACE to a SQUARE. NO: square; it has no LEAST", EdgeTests::meanPaceOfNone);
    sentence("(square -1: none then, 0, whatever the rest is). NONE: square; BAD: minute; FULL: 5", () -> rowsFull("see", 5));
    sentence("FITS: what 0 how many, 1 the least; -5", EdgeTests::fitsOfNone);
    sentence("(what -1: none then, 0, whatever the rest is). NONE: what (0 .. 3), ZONE n; BAD: n (by 2: 0 .. 7); FULL: 8", () -> rowsFull("event", 8));
    sentence("(square -1: it is empty then, 0, whatever the rest is). NONE: square; BAD: minute; FULL: 8", () -> rowsFull("book", 8));
    sentence("THE IMAGE is taken: how many SQUARES are LAND", EdgeTests::imageOfLand);
    sentence("All is as THE IMAGE: how many SQUARES are LAND. STATE: there is none", EdgeTests::undoTwice);
    sentence("A TAPE becomes a row of n (0 .. 60) of a sort, all 0", EdgeTests::tapeOfEachLength);
    sentence("or holds nothing (sort -1: n does not matter): 1", EdgeTests::tapeOfNothing);
    sentence("NONE: tape; BAD: sort, n above 60; SIZE", EdgeTests::tapeRefusedInOrder);
    sentence("NONE; NOTHING; PLACE", EdgeTests::itemRefusedInOrder);
    sentence("NO: no such TAPE, nothing there, no such place", EdgeTests::peekOfNothing);
    sentence("n items of a TAPE from i on come to another one (or the same) from j on, as they all were before: n", EdgeTests::shiftAll);
    sentence("PLACE: n, i or j is below 0, or beyond either's end", EdgeTests::shiftEnds);
  }

  private static void newBesideOthers() {
    SailCourses old = made(2);
    SailCourses fresh = new SailCourses();
    due("a new object beside another", Arrays.equals(seenOf(fresh), UNTOUCHED[0]) ? 1 : 0, 1);
    due("the other beside a new one", Arrays.equals(seenOf(old), UNTOUCHED[2]) ? 1 : 0, 1);
  }

  private static void fiveHundredAndTwelve() {
    for (int call = 1; call <= 256; call++) {
      int was = call == 1 ? 2 : (call - 1) % 8 * 10 + (call - 1) % 4;
      due("wind, call " + (2 * call - 1), x.wind(1, 1, call % 8, call % 4), was);
      due("fits, call " + 2 * call, x.fits(0, 0, 0), 8);
    }
    x = new SailCourses();
    for (int call = 1; call <= 511; call++) due("steer, call " + call, x.steer(call % 9 - 1), call % 9);
    due("steer, call 512", x.steer(7), 8);
    for (int sort = 0; sort < 5; sort++) {
      x = new SailCourses();
      for (int call = 1; call < 512; call++) due("tape, call " + call, x.tape(call % 6, sort, call % 61), 1);
      due("peek, call 512", x.peek(511 % 6, 511 % 61 - 1), 0);
    }
  }

  private static void windThatWas() {
    int was = 2;
    for (int from = 7; from >= 0; from--) {
      for (int force = 3; force >= 0; force--) {
        due("wind", x.wind(2, 1, from, force), was);
        was = 10 * from + force;
      }
    }
    was = 0;
    for (int to = 7; to >= 0; to--) {
      for (int rate = 3; rate >= 0; rate--) {
        due("current", x.current(2, to, rate), was);
        was = 10 * to + rate;
      }
    }
  }

  private static void landAtStart() {
    for (int square = 0; square < 36; square++) {
      x.start(square, 0, 0);
      due("LAND", x.land(square, true), STATE);
      due("not LAND", x.land(square, false), 0);
      due("elsewhere", x.land(35 - square, true), 0);
      due("elsewhere again", x.land(35 - square, true), 1);
      due("elsewhere not any more", x.land(35 - square, false), 1);
      due("elsewhere, once more", x.land(35 - square, false), 0);
    }
  }

  private static void startOfLand() {
    x.land(14, true);
    due("LAND", x.start(14, 0, 0), STATE);
    due("LAND, and the last minute", x.start(14, 1, 9999), STATE);
    due("LAND, and BAD", x.start(14, 0, 10000), BAD);
    due("LAND, and BAD", x.start(14, 0, -1), BAD);
    due("LAND, and NONE", x.start(14, 2, 0), NONE);
    due("LAND, and NONE, and BAD", x.start(14, -1, -1), NONE);
    due("START where it is", x.start(0, 0, 0), 35);
    x.land(14, false);
    due("not any more", x.start(14, 0, 0), 36);
    due("START where it is", x.start(14, 0, 0), 36);
  }

  private static void startHowMany() {
    for (int square : new int[] {1, 6, 7}) x.land(square, true);
    due("START alone", x.start(0, 0, 0), 1);
    due("all but LAND and 0", x.start(35, 0, 0), 32);
    due("by told, too", x.told(6), 32);
    x.land(7, false);
    due("all but LAND", x.start(35, 0, 0), 34);
    for (int zone = 0; zone < 4; zone++) for (int span = 0; span < 4; span++) x.wind(zone, span, 0, 0);
    due("calm", x.start(35, 1, 9999), 1);
  }

  private static void steerFull() {
    due("none yet", x.steer(-1), 0);
    for (int n = 1; n <= 8; n++) due("steer", x.steer(n - 1), n);
    due("full", x.steer(7), FULL);
    due("NONE, though full", x.steer(8), NONE);
    due("NONE, though full", x.steer(-2), NONE);
    due("none then", x.steer(-1), 0);
    due("none then", x.count(4), 0);
    due("one", x.steer(7), 1);
  }

  private static void feedFull() {
    due("-1", x.feed(-1), BAD);
    for (int n = 1; n <= 100; n++) due("feed", x.feed(n == 1 ? 127 : n == 2 ? 0 : 'l'), n);
    due("full", x.feed('l'), FULL);
    due("full", x.feed(0), FULL);
    due("BAD, though full", x.feed(128), BAD);
    due("a hundred", x.count(3), 100);
    due("read", x.read(), -10);
    due("none then", x.count(3), 0);
    for (int n = 1; n <= 100; n++) due("feed", x.feed('l'), n);
    due("full", x.feed('l'), FULL);
  }

  private static void readEmpties() {
    due("nothing", x.read(), -10);
    x.feed('l');
    due("a FAULT", x.read(), -11);
    due("empty", x.count(3), 0);
    due("nothing is left", x.read(), -10);
    for (char sign : "l07".toCharArray()) x.feed(sign);
    due("done", x.read(), 1);
    due("empty", x.count(3), 0);
    due("nothing is left", x.read(), -10);
    // What was read before must not be found behind a shorter text.
    x.feed('t');
    due("a FAULT", x.read(), -11);
    for (char sign : "l36".toCharArray()) x.feed(sign);
    due("none done", x.read(), 0);
    due("empty", x.count(3), 0);
  }

  private static void toldOfSeveral() {
    due("at first", x.told(8), 35);
    due("at first", x.told(7), 850);
    for (int square : new int[] {1, 6, 7}) x.land(square, true);
    due("START alone", x.told(8), 0);
    due("START alone", x.told(7), 0);
    x.start(35, 0, 77);
    int greatest = -1, where = -1;
    for (int square = 0; square < 36; square++) {
      if (x.least(square, 2) > greatest) { greatest = x.least(square, 2); where = square; }
    }
    due("the greatest", x.told(7), greatest);
    due("its square", x.told(8), where);
    // A current to the south alone: 20 and 26 and 32; and one to the east as far: the lesser square.
    x = new SailCourses();
    for (int zone = 0; zone < 4; zone++) for (int span = 0; span < 4; span++) x.wind(zone, span, 3, 0);
    x.current(0, 3, 2);
    x.loss(0, 0);
    x.loss(1, 0);
    for (int square : new int[] {7, 14, 21}) x.land(square, true);
    due("1, 6, 8, 13, and by them 2, 12 ...", x.told(6) > 3 ? 1 : 0, 1);
    for (int square = 0; square < 36; square++) {
      int mirrored = square % 6 * 6 + square / 6;
      due("as far as its mirrored square", x.least(square, 2), x.least(mirrored, 2));
    }
    int first = x.told(8);
    due("the lesser of two squares", first < first % 6 * 6 + first / 6 ? 1 : 0, 1);
    due("its LEAST", x.least(first, 2), x.told(7));
  }

  private static void paceOfLand() {
    due("to the south", x.pace(35, 4, 0), 4);
    due("none beside", x.pace(35, 3, 0), 5);
    for (int square = 1; square < 36; square++) x.land(square, true);
    for (int square = 0; square < 36; square++) due("LAND all round", x.pace(square, 4, 9999), 4);
    due("0: none", x.pace(35, 0, 0), 0);
  }

  private static void legOfLand() {
    for (int what = 0; what < 3; what++) {
      due("none beside", x.leg(35, 0, 4, 0, what), ABSENT);
      due("no PACE", x.leg(35, 0, 0, 0, what), ABSENT);
    }
    x.land(14, true);
    for (int what = 0; what < 3; what++) {
      due("into LAND", x.leg(8, 0, 4, 0, what), ABSENT);
      due("out of LAND", x.leg(14, 0, 4, 0, what), NONE);
      due("out of LAND, and BAD", x.leg(14, 0, 4, -1, what), NONE);
    }
    due("what, and BAD", x.leg(8, 0, 4, -1, 3), NONE);
    due("BAD", x.leg(8, 0, 4, -1, 2), BAD);
    due("BAD, and there is none", x.leg(35, 0, 4, 10000, 0), BAD);
    x.land(14, false);
    due("not any more", x.leg(14, 0, 4, 0, 0), 150);
    due("the last minute", x.leg(14, 0, 4, 9999, 0), 9999 + 150);
  }

  private static void leastOfSides() {
    due("side 0", x.least(13, 0), 320);
    due("of the SQUARE", x.least(13, 2), 320);
    due("side 1: on from 6", x.least(13, 1) > 320 ? 1 : 0, 1);
    due("35 by side 1", x.least(35, 1), ABSENT);
    x.land(13, true);
    for (int side = 0; side < 3; side++) due("LAND", x.least(13, side), ABSENT);
    due("side 3", x.least(13, 3), NONE);
  }

  private static void lastParts() {
    due("35 from 28 with side 0 by 3", x.last(35, 0), 2803);
    due("35 has no LEAST with side 1", x.last(35, 1), ABSENT);
    due("START", x.last(0, 0), ABSENT);
    x.start(35, 1, 0);
    due("START", x.last(35, 1), ABSENT);
    due("28 from 35 with side 1 by 7", x.last(28, 1), 3517);
    due("side 2", x.last(28, 2), NONE);
  }

  private static void courseEnds() {
    due("how many", x.course(35, -1), 5);
    due("the first", x.course(35, 0), 3);
    due("the last", x.course(35, 4), 3);
    due("not so many", x.course(35, 5), ABSENT);
    due("not so many by far", x.course(35, MAX), ABSENT);
    due("-2", x.course(35, -2), NONE);
    due("START", x.course(0, -1), 0);
    due("START", x.course(0, 0), ABSENT);
    x.land(35, true);
    due("no LEAST", x.course(35, -1), ABSENT);
    due("no LEAST", x.course(35, 0), ABSENT);
    due("no LEAST, -2", x.course(35, -2), NONE);
  }

  private static void meanPaceOfNone() {
    x.land(35, true);
    due("LAND", x.meanPace(35), NO);
    due("START", x.meanPace(0), 0);
    due("36", x.meanPace(36), NO);
    for (int square : new int[] {1, 6, 7}) x.land(square, true);
    for (int square = 1; square < 36; square++) due("no way to " + square, x.meanPace(square), NO);
    due("START", x.meanPace(0), 0);
  }

  private static int row(String name, int first, int second) {
    return name.equals("see") ? x.see(first, second) : name.equals("book") ? x.book(first, second) : x.event(first, second);
  }

  private static void rowsFull(String name, int most) {
    int what = name.equals("see") ? 0 : name.equals("event") ? 1 : 2;
    int[] any = {0, 1, -1, 4, 8, 100000, MIN, MAX};
    for (int rest : any) {
      due("none yet, rest " + rest, row(name, -1, rest), 0);
      for (int n = 1; n <= most; n++) due(name, row(name, n % 4, n % 4), n);
      due("how many", x.count(what), most);
      due("full", row(name, 0, 0), FULL);
      due("full, at the other end", row(name, 3, 3), FULL);
      due("NONE, though full", row(name, 36, 0), NONE);
      due("NONE, though full", row(name, -2, 0), NONE);
      if (name.equals("event")) due("NONE of ZONE, though full", x.event(3, 4), NONE);
      due("BAD, though full", name.equals("event") ? x.event(2, 8) : row(name, 0, 100000), BAD);
      due("still full", x.count(what), most);
      due("none then, rest " + rest, row(name, -1, rest), 0);
      due("none then", x.count(what), 0);
    }
  }

  private static void fitsOfNone() {
    x.see(35, 0);
    due("how many", x.fits(0, 0, 0), 0);
    due("the least", x.fits(0, 0, 1), ABSENT);
    x.see(-1, 0);
    due("how many", x.fits(0, 0, 0), 8);
    due("the least", x.fits(0, 0, 1), 0);
  }

  private static void imageOfLand() {
    due("none", x.image(), 0);
    for (int square = 1; square < 36; square++) x.land(square, true);
    due("undo", x.undo(), 0);
    for (int square = 1; square < 36; square++) x.land(square, true);
    due("35", x.image(), 35);
    x.land(35, false);
    due("34, and the image 35", x.undo(), 35);
    due("35", x.told(5), 35);
  }

  private static void undoTwice() {
    due("there is none", x.undo(), STATE);
    x.land(1, true);
    due("there is none", x.undo(), STATE);
    due("image", x.image(), 1);
    for (int time = 0; time < 3; time++) {
      x.land(2, true);
      x.wind(0, 0, 1, 1);
      due("undo", x.undo(), 1);
      due("WIND", x.of(0, 0, 0), 0);
      due("LEAST goes by it", x.least(35, 2), 850);
    }
    x.land(3, true);
    due("another image", x.image(), 2);
    due("undo", x.undo(), 2);
  }

  private static void tapeOfEachLength() {
    for (int n = 0; n <= 60; n++) {
      due("a row of " + n, x.tape(n % 6, n % 5, n), 1);
      due("its end", x.item(n % 6, n, 1), PLACE);
      due("ahead of it", x.item(n % 6, -1, 1), PLACE);
      if (n == 0) continue;
      due("its last", x.item(n % 6, n - 1, 1), 1);
      due("its last", x.peek(n % 6, n - 1), 1);
      due("beyond", x.peek(n % 6, n), NO);
    }
    // A row again: all 0, whatever the last row's items were.
    for (int sort = 0; sort < 5; sort++) {
      x.tape(0, 3, 60);
      for (int i = 0; i < 60; i += 20) x.item(0, i, -1);
      due("a row again", x.tape(0, sort, 60), 1);
      for (int i = 0; i < 60; i += 20) due("all 0", x.peek(0, i), 0);
    }
  }

  private static void tapeOfNothing() {
    for (int n : new int[] {0, 1, 60, 61, -1, MIN, MAX}) {
      x.tape(3, 1, 2);
      due("nothing", x.tape(3, -1, n), 1);
      due("nothing is there", x.item(3, 0, 0), NOTHING);
      due("nothing is there", x.peek(3, 0), NO);
      due("nothing again", x.tape(3, -1, n), 1);
    }
    due("no such TAPE", x.tape(6, -1, 0), NONE);
  }

  private static void tapeRefusedInOrder() {
    due("tape, sort, n", x.tape(6, 5, 61), NONE);
    due("tape, n below 0", x.tape(-1, 0, -1), NONE);
    due("sort, n above", x.tape(0, 5, 61), BAD);
    due("sort, n below 0", x.tape(0, 5, -1), BAD);
    due("sort -2, n below 0", x.tape(0, -2, -1), BAD);
    due("n above", x.tape(0, 4, 61), BAD);
    due("n below 0", x.tape(0, 4, -1), SIZE);
    due("n far below 0", x.tape(0, 0, MIN), SIZE);
    due("nothing came", x.item(0, 0, 0), NOTHING);
  }

  private static void itemRefusedInOrder() {
    due("no such TAPE", x.item(6, -1, 0), NONE);
    due("nothing", x.item(0, -1, 0), NOTHING);
    due("nothing", x.item(0, MAX, 0), NOTHING);
    x.tape(0, 2, 0);
    due("an empty row", x.item(0, 0, 0), PLACE);
    due("an empty row", x.item(0, -1, 0), PLACE);
    x.tape(0, 2, 60);
    due("the first", x.item(0, 0, 0), 1);
    due("the last", x.item(0, 59, 0), 1);
    due("behind the last", x.item(0, 60, 0), PLACE);
  }

  private static void peekOfNothing() {
    for (int tape : new int[] {-1, 6, MIN, MAX}) due("no such TAPE", x.peek(tape, 0), NO);
    due("nothing there", x.peek(0, 0), NO);
    x.tape(0, 0, 0);
    due("an empty row", x.peek(0, 0), NO);
    x.tape(0, 3, 60);
    x.item(0, 0, Long.MAX_VALUE);
    x.item(0, 59, Long.MIN_VALUE + 1);
    due("the first", x.peek(0, 0), Long.MAX_VALUE);
    due("the last", x.peek(0, 59), Long.MIN_VALUE + 1);
    for (int i : new int[] {-1, 60, 61, MIN, MAX}) due("no such place", x.peek(0, i), NO);
  }

  private static void shiftAll() {
    for (int sort = 0; sort < 5; sort++) {
      for (int[] p : new int[][] {{0, 1, 4}, {1, 0, 4}, {0, 2, 3}, {2, 0, 3}, {1, 3, 2}, {0, 0, 5}, {4, 0, 1}, {0, 4, 1}, {5, 5, 0}, {2, 2, 0}}) {
        for (int to = 0; to < 2; to++) {
          x = new SailCourses();
          long[][] rows = {{1, 0, 0, 1, 1}, {0, 1, 0, 0, 1}};
          for (int tape = 0; tape < 2; tape++) {
            x.tape(tape, sort, 5);
            for (int i = 0; i < 5; i++) {
              if (sort < 4) rows[tape][i] = 10 * tape + i + 1;
              x.item(tape, i, rows[tape][i]);
            }
          }
          due("shift", x.shift(0, p[0], to, p[1], p[2]), p[2]);
          long[] before = rows[0].clone();
          for (int n = 0; n < p[2]; n++) rows[to][p[1] + n] = before[p[0] + n];
          for (int tape = 0; tape < 2; tape++) {
            for (int i = 0; i < 5; i++) due("item " + i + " of " + tape + " behind " + Arrays.toString(p), x.peek(tape, i), rows[tape][i]);
          }
        }
      }
    }
  }

  private static void shiftEnds() {
    x.tape(0, 0, 60);
    x.tape(1, 0, 5);
    x.tape(2, 0, 0);
    int[][] told = {{0, 0, 1, 0, 5, 5}, {0, 0, 1, 0, 6, PLACE}, {0, 55, 1, 0, 5, 5}, {0, 56, 1, 0, 5, PLACE}, {0, 0, 1, 1, 5, PLACE},
        {1, 0, 0, 55, 5, 5}, {1, 0, 0, 56, 5, PLACE}, {1, 1, 0, 55, 5, PLACE}, {1, 5, 0, 60, 0, 0}, {1, 6, 0, 0, 0, PLACE}, {1, 0, 0, 61, 0, PLACE},
        {2, 0, 2, 0, 0, 0}, {2, 0, 2, 0, 1, PLACE}, {2, 1, 2, 0, 0, PLACE}, {2, 0, 0, 60, 0, 0}, {1, -1, 0, 0, 1, PLACE}, {1, 0, 0, -1, 1, PLACE},
        {1, 0, 0, 0, -1, PLACE}, {1, -1, 0, 0, 0, PLACE}, {1, 0, 0, -1, 0, PLACE}, {1, MAX, 0, 0, 1, PLACE}, {1, 1, 0, 0, MAX, PLACE},
        {1, 0, 0, MAX, MAX, PLACE}, {0, 0, 0, 0, 60, 60}, {0, 0, 0, 0, 61, PLACE}, {1, MIN, 0, 0, MIN, PLACE}, {1, 0, 0, 0, MIN, PLACE}};
    for (int[] t : told) due(Arrays.toString(t), x.shift(t[0], t[1], t[2], t[3], t[4]), t[5]);
    x.tape(3, 1, 5);
    due("no such TAPE, and NOTHING", x.shift(6, 0, 4, 0, 0), NONE);
    due("no such TAPE, and NOTHING", x.shift(4, 0, 6, 0, 0), NONE);
    due("NOTHING, and PLACE", x.shift(4, -1, 0, 0, 0), NOTHING);
    due("NOTHING, and PLACE", x.shift(0, -1, 4, 0, 0), NOTHING);
    due("CAST, and PLACE", x.shift(0, -1, 3, 0, 0), CAST);
    due("CAST, and none to come", x.shift(0, 0, 3, 0, 0), CAST);
  }
}
