import java.math.BigInteger;
import java.util.ArrayList;
import java.util.Arrays;
import java.util.List;
import java.util.regex.Matcher;
import java.util.regex.Pattern;

/**
 * Long runs of calls, each answered by SailCourses and by an oracle that follows the document
 * word by word, in another way than the class does (relaxing until nothing changes, regular
 * expressions, the library's bits). The calls come from a fixed row of numbers.
 */
public final class OracleRuns {
  private static final int RUNS = 60, CALLS = 512, LONGEST_SAID = 60;
  private static int wrong = 0;

  public static void main(String[] args) {
    int runs = args.length > 0 ? Integer.parseInt(args[0]) : RUNS;
    for (int run = 0; run < runs && wrong < 20; run++) {
      new Run(run).go();
    }
    for (int sea = 0; sea < 12 && wrong < 20; sea++) {
      everyMinute(sea);
    }
    extremes();
    System.out.println(wrong == 0 ? "oracle: all answers are alike" : "oracle: " + wrong + " answers differ");
    if (wrong != 0) System.exit(1);
  }

  private static void differ(String where, long got, long want) {
    wrong++;
    System.out.println(where + " answered " + got + ", due is " + want);
  }

  /** A fixed row of numbers (a linear congruence), so that every run is told by its number. */
  private static final class Dice {
    private long state;
    Dice(long seed) { state = seed * 0x9E3779B97F4A7C15L + 12345; for (int i = 0; i < 5; i++) below(2); }
    int below(int bound) {
      state = state * 6364136223846793005L + 1442695040888963407L;
      return (int) ((state >>> 33) % bound);
    }
    /** Mostly 0 .. most, sometimes beyond either end. */
    int about(int most) {
      int odd = below(40);
      if (odd == 0) return -1;
      if (odd == 1) return most + 1;
      if (odd == 2) return below(3) == 0 ? Integer.MIN_VALUE : Integer.MAX_VALUE;
      if (odd == 3) return below(2) * most;
      return below(most + 1);
    }
    long any() { return ((long) below(1 << 30) << 34) ^ ((long) below(1 << 30) << 10) ^ below(1 << 20); }
  }

  private static final class Run {
    final int number;
    final Dice dice;
    final SailCourses real = new SailCourses();
    final Oracle due = new Oracle();
    int calls = 0;

    Run(int number) { this.number = number; dice = new Dice(number); }

    void go() {
      while (calls < CALLS && wrong < 20) {
        // What an object answers behind its 512th call is free: no text that may not be read by then.
        boolean roomForText = calls + LONGEST_SAID < CALLS;
        if (roomForText && dice.below(10) == 0 && calls / 100 % 2 == 0) sayText(); else any();
      }
    }

    void same(String call, long got, long want) {
      calls++;
      if (got != want) differ("run " + number + ", call " + calls + ": " + call, got, want);
    }

    void sayText() {
      StringBuilder s = new StringBuilder();
      int clauses = dice.below(12) == 0 ? 11 + dice.below(3) : 1 + dice.below(4);
      for (int c = 0; c < clauses; c++) {
        if (c > 0) s.append(';');
        s.append(clauses > 10 ? "l" + twoDigits() : clause());
      }
      if (dice.below(4) == 0 && s.length() > 0) {
        s.setCharAt(dice.below(s.length()), "0123456789;,wcblstx \u0000\u007f".charAt(dice.below(22)));
      }
      if (dice.below(8) == 0) s.setLength(dice.below(s.length() + 1));
      if (dice.below(8) == 0) s.append(";0x".charAt(dice.below(3)));
      for (int i = 0; i < s.length(); i++) {
        same("feed", real.feed(s.charAt(i)), due.feed(s.charAt(i)));
      }
      same("read of " + due.text, real.read(), due.read());
    }

    String twoDigits() { int n = dice.below(dice.below(5) == 0 ? 100 : 36); return n < 10 ? "0" + n : "" + n; }

    String clause() {
      switch (dice.below(6)) {
        case 0: return "w" + dice.below(5) + dice.below(5) + dice.below(9) + dice.below(5);
        case 1: return "c" + dice.below(5) + dice.below(9) + dice.below(5);
        case 2: {
          StringBuilder s = new StringBuilder("b" + dice.below(5));
          for (int i = 0; i < 5; i++) s.append(dice.below(10));
          return s.toString();
        }
        case 3: return "l" + twoDigits();
        case 4: return "s" + twoDigits() + dice.below(3) + dice.below(dice.below(2) == 0 ? 10 : 10000);
        default: return "t" + dice.below(70) + "," + dice.below(70);
      }
    }

    void any() {
      int zone = dice.about(3), span = dice.about(3), square = dice.about(35), side = dice.about(1);
      int way = dice.about(7), part = dice.about(1), minute = dice.about(9999), late = dice.below(3000);
      int told = dice.below(5) == 0 ? dice.about(99999) : late;
      int tape = dice.about(5), place = dice.about(20), other = dice.about(5), at = dice.about(20);
      // In every other hundred of calls the sea stays mostly as it is, and is asked more.
      int what = dice.below(40);
      if (what < 7 && calls / 100 % 2 == 1 && dice.below(8) > 0) what = 10 + dice.below(30);
      switch (what) {
        case 0: case 1: { int f = dice.about(3);
          same("wind " + zone + " " + span + " " + way + " " + f, real.wind(zone, span, way, f), due.wind(zone, span, way, f)); break; }
        case 2: { int r = dice.about(3);
          same("current " + zone + " " + way + " " + r, real.current(zone, way, r), due.current(zone, way, r)); break; }
        case 3: { int f = dice.about(3), a = dice.about(4), v = dice.about(9);
          same("table " + f + " " + a + " " + v, real.table(f, a, v), due.table(f, a, v)); break; }
        case 4: { boolean is = dice.below(3) != 0;
          same("land " + square + " " + is, real.land(square, is), due.land(square, is)); break; }
        case 5: { int m = dice.below(2) == 0 ? minute : dice.below(400);
          same("start " + square + " " + side + " " + m, real.start(square, side, m), due.start(square, side, m)); break; }
        case 6: { int v = dice.about(60);
          same("loss " + part + " " + v, real.loss(part, v), due.loss(part, v)); break; }
        case 7: case 8: same("steer " + way, real.steer(way), due.steer(way)); break;
        case 9: { int sign = dice.about(127);
          same("feed " + sign, real.feed(sign), due.feed(sign)); break; }
        case 10: { int w = dice.about(3);
          same("of " + zone + " " + span + " " + w, real.of(zone, span, w), due.of(zone, span, w)); break; }
        case 11: { int f = dice.about(3), a = dice.about(4);
          same("speed " + f + " " + a, real.speed(f, a), due.speed(f, a)); break; }
        case 12: case 13: { int w = dice.about(8);
          same("told " + w, real.told(w), due.told(w)); break; }
        case 14: same("pace " + square + " " + way + " " + minute, real.pace(square, way, minute), due.pace(square, way, minute)); break;
        case 15: case 16: { int w = dice.about(2);
          same("leg " + square + " " + side + " " + way + " " + minute + " " + w,
              real.leg(square, side, way, minute, w), due.leg(square, side, way, minute, w)); break; }
        case 17: case 18: { int s = dice.about(2);
          same("least " + square + " " + s, real.least(square, s), due.least(square, s)); break; }
        case 19: case 20: same("last " + square + " " + side, real.last(square, side), due.last(square, side)); break;
        case 21: case 22: { int k = dice.below(7) - 1 - dice.below(2);
          same("course " + square + " " + k, real.course(square, k), due.course(square, k)); break; }
        case 23: same("reckon " + way % 2 + " " + part, real.reckon(way % 2, part), due.reckon(way % 2, part)); break;
        case 24: same("meanPace " + square, real.meanPace(square), due.meanPace(square)); break;
        case 25: same("see " + square + " " + told, real.see(square, told), due.see(square, told)); break;
        case 26: same("fits " + zone + " " + span + " " + part, real.fits(zone, span, part), due.fits(zone, span, part)); break;
        case 27: same("odds " + zone + " " + span + " " + square + " " + told + " " + part,
              real.odds(zone, span, square, told, part), due.odds(zone, span, square, told, part)); break;
        case 28: same("mean " + part, real.mean(part), due.mean(part)); break;
        case 29: same("event " + zone + " " + way, real.event(zone, way), due.event(zone, way)); break;
        case 30: { int n = dice.about(3);
          same("event " + zone + " " + n, real.event(zone, n), due.event(zone, n)); break; }
        case 31: { int w = dice.about(2);
          same("after " + w, real.after(w), due.after(w)); break; }
        case 32: { int m = dice.below(3) > 0 ? due.leastTold(square) : told;
          same("book " + square + " " + m, real.book(square, m), due.book(square, m)); break; }
        case 33: same("looked", real.looked(), due.looked()); break;
        case 34: { int i = dice.below(2) == 0 ? 0 : place;
          same("judge " + tape + " " + i, real.judge(tape, i), due.judge(tape, i)); break; }
        case 35: if (dice.below(3) == 0) same("image", real.image(), due.image()); else same("undo", real.undo(), due.undo()); break;
        case 36: { int w = dice.about(4);
          same("count " + w, real.count(w), due.count(w)); break; }
        case 37: { int sort = dice.below(3) == 0 ? 2 : dice.about(4), n = dice.about(60);
          same("tape " + tape + " " + sort + " " + n, real.tape(tape, sort, n), due.tape(tape, sort, n)); break; }
        case 38: { int n = dice.below(8) == 0 ? dice.about(60) : dice.below(8);
          same("shift " + tape + " " + place + " " + other + " " + at + " " + n,
              real.shift(tape, place, other, at, n), due.shift(tape, place, other, at, n)); break; }
        default: tellItems(tape, place); break;
      }
    }

    void tellItems(int tape, int place) {
      if (calls + 2 > CALLS) return;
      if (dice.below(2) == 0) {
        long v = dice.any();
        same("item " + tape + " " + place + " " + v, real.item(tape, place, v), due.item(tape, place, v));
        same("peek " + tape + " " + place, real.peek(tape, place), due.peek(tape, place));
        return;
      }
      // The true LEAST, up to some square, so that judging goes far.
      int upTo = dice.below(2) == 0 ? 36 : dice.below(36);
      if (calls + upTo + 2 > CALLS) return;
      same("tape " + tape, real.tape(tape, 2, 36), due.tape(tape, 2, 36));
      for (int i = 0; i < upTo; i++) {
        int v = due.leastTold(i) < 0 ? -1 : due.leastTold(i);
        same("item " + tape + " " + i + " " + v, real.item(tape, i, v), due.item(tape, i, v));
      }
      same("judge " + tape, real.judge(tape, 0), due.judge(tape, 0));
    }
  }

  private interface Ask { long of(SailCourses real, int[] a); }
  private interface Due { long of(Oracle due, int[] a); }

  /** Every call by all that can be made of a few numbers, the ends of int among them. */
  private static void extremes() {
    int[] few = {Integer.MIN_VALUE, -1, 0, 1, 5, Integer.MAX_VALUE};
    extremes("wind", few, 4, (x, a) -> x.wind(a[0], a[1], a[2], a[3]), (x, a) -> x.wind(a[0], a[1], a[2], a[3]));
    extremes("current", few, 3, (x, a) -> x.current(a[0], a[1], a[2]), (x, a) -> x.current(a[0], a[1], a[2]));
    extremes("table", few, 3, (x, a) -> x.table(a[0], a[1], a[2]), (x, a) -> x.table(a[0], a[1], a[2]));
    extremes("land", few, 2, (x, a) -> x.land(a[0], a[1] > 0), (x, a) -> x.land(a[0], a[1] > 0));
    extremes("start", few, 3, (x, a) -> x.start(a[0], a[1], a[2]), (x, a) -> x.start(a[0], a[1], a[2]));
    extremes("loss", few, 2, (x, a) -> x.loss(a[0], a[1]), (x, a) -> x.loss(a[0], a[1]));
    extremes("steer", few, 1, (x, a) -> x.steer(a[0]), (x, a) -> x.steer(a[0]));
    extremes("feed", few, 1, (x, a) -> x.feed(a[0]), (x, a) -> x.feed(a[0]));
    extremes("of", few, 3, (x, a) -> x.of(a[0], a[1], a[2]), (x, a) -> x.of(a[0], a[1], a[2]));
    extremes("speed", few, 2, (x, a) -> x.speed(a[0], a[1]), (x, a) -> x.speed(a[0], a[1]));
    extremes("told", few, 1, (x, a) -> x.told(a[0]), (x, a) -> x.told(a[0]));
    extremes("pace", few, 3, (x, a) -> x.pace(a[0], a[1], a[2]), (x, a) -> x.pace(a[0], a[1], a[2]));
    extremes("leg", few, 5, (x, a) -> x.leg(a[0], a[1], a[2], a[3], a[4]), (x, a) -> x.leg(a[0], a[1], a[2], a[3], a[4]));
    extremes("least", few, 2, (x, a) -> x.least(a[0], a[1]), (x, a) -> x.least(a[0], a[1]));
    extremes("last", few, 2, (x, a) -> x.last(a[0], a[1]), (x, a) -> x.last(a[0], a[1]));
    extremes("course", few, 2, (x, a) -> x.course(a[0], a[1]), (x, a) -> x.course(a[0], a[1]));
    extremes("reckon", few, 2, (x, a) -> x.reckon(a[0], a[1]), (x, a) -> x.reckon(a[0], a[1]));
    extremes("meanPace", few, 1, (x, a) -> x.meanPace(a[0]), (x, a) -> x.meanPace(a[0]));
    extremes("see", few, 2, (x, a) -> x.see(a[0], a[1]), (x, a) -> x.see(a[0], a[1]));
    extremes("fits", few, 3, (x, a) -> x.fits(a[0], a[1], a[2]), (x, a) -> x.fits(a[0], a[1], a[2]));
    extremes("odds", few, 5, (x, a) -> x.odds(a[0], a[1], a[2], a[3], a[4]), (x, a) -> x.odds(a[0], a[1], a[2], a[3], a[4]));
    extremes("mean", few, 1, (x, a) -> x.mean(a[0]), (x, a) -> x.mean(a[0]));
    extremes("event", few, 2, (x, a) -> x.event(a[0], a[1]), (x, a) -> x.event(a[0], a[1]));
    extremes("after", few, 1, (x, a) -> x.after(a[0]), (x, a) -> x.after(a[0]));
    extremes("book", few, 2, (x, a) -> x.book(a[0], a[1]), (x, a) -> x.book(a[0], a[1]));
    extremes("judge", few, 2, (x, a) -> x.judge(a[0], a[1]), (x, a) -> x.judge(a[0], a[1]));
    extremes("count", few, 1, (x, a) -> x.count(a[0]), (x, a) -> x.count(a[0]));
    extremes("tape", few, 3, (x, a) -> x.tape(a[0], a[1], a[2]), (x, a) -> x.tape(a[0], a[1], a[2]));
    extremes("item", few, 3, (x, a) -> x.item(a[0], a[1], a[2]), (x, a) -> x.item(a[0], a[1], a[2]));
    extremes("peek", few, 2, (x, a) -> x.peek(a[0], a[1]), (x, a) -> x.peek(a[0], a[1]));
    extremes("shift", few, 5, (x, a) -> x.shift(a[0], a[1], a[2], a[3], a[4]), (x, a) -> x.shift(a[0], a[1], a[2], a[3], a[4]));
  }

  private static void extremes(String name, int[] few, int arguments, Ask ask, Due due) {
    SailCourses real = new SailCourses();
    Oracle oracle = new Oracle();
    int all = 1;
    for (int i = 0; i < arguments; i++) all *= few.length;
    for (int nth = 0; nth < all && wrong < 20; nth++) {
      if (nth % 500 == 0) {
        real = new SailCourses();
        oracle = new Oracle();
        for (int tape = 0; tape < 2; tape++) if (real.tape(tape, 2, 6) != oracle.tape(tape, 2, 6)) wrong++;
        if (real.tape(5, 3, 6) != oracle.tape(5, 3, 6)) wrong++;
      }
      int[] a = new int[arguments];
      for (int i = 0, rest = nth; i < arguments; i++, rest /= few.length) a[i] = few[rest % few.length];
      long got = ask.of(real, a), want = due.of(oracle, a);
      if (got != want) differ(name + Arrays.toString(a), got, want);
    }
  }

  /** LEAST by following every way to every minute: nothing is taken for granted about waiting. */
  private static void everyMinute(int number) {
    Dice dice = new Dice(7777 + number);
    SailCourses real = new SailCourses();
    Oracle due = new Oracle();
    for (int zone = 0; zone < 4; zone++) {
      for (int span = 0; span < 4; span++) {
        int from = dice.below(8), force = dice.below(4);
        real.wind(zone, span, from, force);
        due.wind(zone, span, from, force);
      }
      int to = dice.below(8), rate = dice.below(4);
      real.current(zone, to, rate);
      due.current(zone, to, rate);
    }
    for (int n = 0; n < 6; n++) {
      int square = 1 + dice.below(35);
      real.land(square, true);
      due.land(square, true);
    }
    int tack = dice.below(61), gybe = dice.below(61), minute = dice.below(1440);
    real.loss(0, tack);
    due.loss(0, tack);
    real.loss(1, gybe);
    due.loss(1, gybe);
    real.start(0, number % 2, minute);
    due.start(0, number % 2, minute);
    int horizon = minute + 4000;
    boolean[][] there = new boolean[horizon + 1][72];
    there[minute][number % 2] = true;
    int[] first = new int[72];
    Arrays.fill(first, -5);
    for (int now = minute; now <= horizon; now++) {
      for (int spot = 0; spot < 72; spot++) {
        if (!there[now][spot]) continue;
        if (first[spot] == -5) first[spot] = now;
        for (int heading = 0; heading < 8; heading++) {
          for (int[] leg : due.legsFrom(spot / 2, spot % 2, heading, now)) {
            if (leg[0] <= horizon) there[leg[0]][2 * leg[3] + leg[2]] = true;
          }
        }
      }
    }
    for (int spot = 0; spot < 72; spot++) {
      int got = real.least(spot / 2, spot % 2);
      if (first[spot] != -5 ? got != first[spot] : got != -5 && got <= horizon) {
        differ("every minute, sea " + number + ": least " + spot / 2 + " " + spot % 2, got, first[spot]);
      }
    }
  }

  /** The document, word by word. */
  private static final class Oracle {
    int[][] from = new int[4][4], force = {{2, 2, 2, 2}, {2, 2, 2, 2}, {2, 2, 2, 2}, {2, 2, 2, 2}};
    int[] to = new int[4], rate = new int[4];
    int[][] table = {null, {0, 1, 2, 3, 2}, {0, 2, 4, 5, 4}, {0, 3, 5, 7, 6}};
    boolean[] land = new boolean[36];
    int[] start = {0, 0, 0}, loss = {5, 9};
    List<Integer> headings = new ArrayList<>();
    List<int[]> seen = new ArrayList<>(), events = new ArrayList<>(), book = new ArrayList<>();
    StringBuilder text = new StringBuilder();
    Object[] tapes = new Object[6];
    Oracle image = null;

    private static boolean in(int v, int low, int high) { return low <= v && v <= high; }

    private static int[][] deep(int[][] rows) {
      int[][] copy = new int[rows.length][];
      for (int i = 0; i < rows.length; i++) copy[i] = rows[i] == null ? null : rows[i].clone();
      return copy;
    }

    private static void put(Oracle a, Oracle b) {
      b.from = deep(a.from); b.force = deep(a.force); b.to = a.to.clone(); b.rate = a.rate.clone();
      b.table = deep(a.table); b.land = a.land.clone(); b.start = a.start.clone(); b.loss = a.loss.clone();
      b.headings = new ArrayList<>(a.headings); b.seen = new ArrayList<>(a.seen);
      b.events = new ArrayList<>(a.events); b.book = new ArrayList<>(a.book);
    }

    private Oracle like() { Oracle other = new Oracle(); put(this, other); return other; }

    int wind(int zone, int span, int f, int g) {
      if (!in(zone, 0, 3) || !in(span, 0, 3)) return -1;
      if (!in(f, 0, 7) || !in(g, 0, 3)) return -2;
      int was = 10 * from[zone][span] + force[zone][span];
      from[zone][span] = f;
      force[zone][span] = g;
      return was;
    }

    int current(int zone, int t, int r) {
      if (!in(zone, 0, 3)) return -1;
      if (!in(t, 0, 7) || !in(r, 0, 3)) return -2;
      int was = 10 * to[zone] + rate[zone];
      to[zone] = t;
      rate[zone] = r;
      return was;
    }

    int table(int f, int angle, int v) {
      if (!in(f, 1, 3) || !in(angle, 0, 4)) return -1;
      if (!in(v, 0, 9)) return -2;
      int was = table[f][angle];
      table[f][angle] = v;
      return was;
    }

    int land(int square, boolean is) {
      if (!in(square, 0, 35)) return -1;
      if (is && start[0] == square) return -3;
      int was = land[square] ? 1 : 0;
      land[square] = is;
      return was;
    }

    int start(int square, int side, int minute) {
      if (!in(square, 0, 35) || !in(side, 0, 1)) return -1;
      if (!in(minute, 0, 9999)) return -2;
      if (land[square]) return -3;
      start = new int[] {square, side, minute};
      return told(6);
    }

    int loss(int what, int v) {
      if (!in(what, 0, 1)) return -1;
      if (!in(v, 0, 60)) return -2;
      int was = loss[what];
      loss[what] = v;
      return was;
    }

    int steer(int heading) {
      if (heading == -1) { headings.clear(); return 0; }
      if (!in(heading, 0, 7)) return -1;
      if (headings.size() == 8) return -4;
      headings.add(heading);
      return headings.size();
    }

    int feed(int sign) {
      if (!in(sign, 0, 127)) return -2;
      if (text.length() == 100) return -4;
      text.append((char) sign);
      return text.length();
    }

    private static final String CLAUSE =
        "(?:w[0-9]{4}|c[0-9]{3}|b[0-9]{6}|l[0-9]{2}|s[0-9]{3}[0-9]{1,4}|t[0-9]{1,2},[0-9]{1,2})";
    private static final Pattern SET_UP = Pattern.compile(CLAUSE + "(?:;" + CLAUSE + "){0,11}");

    int read() {
      String all = text.toString();
      text.setLength(0);
      for (int n = 1; n <= all.length(); n++) {
        Matcher m = SET_UP.matcher(all.substring(0, n));
        if (!m.matches() && !m.hitEnd()) return -10 - (n - 1);
      }
      if (!SET_UP.matcher(all).matches()) return -10 - all.length();
      int done = 0;
      for (String clause : all.split(";")) if (does(clause)) done++;
      return done;
    }

    private boolean does(String c) {
      int[] d = new int[c.length()];
      for (int i = 1; i < c.length(); i++) d[i] = c.charAt(i) - '0';
      switch (c.charAt(0)) {
        case 'w': return wind(d[1], d[2], d[3], d[4]) >= 0;
        case 'c': return current(d[1], d[2], d[3]) >= 0;
        case 'b':
          if (!in(d[1], 1, 3)) return false;
          table[d[1]] = Arrays.copyOfRange(d, 2, 7);
          return true;
        case 'l': {
          int square = Integer.parseInt(c.substring(1));
          return square <= 35 && land(square, !land[square]) >= 0;
        }
        case 's': return start(Integer.parseInt(c.substring(1, 3)), d[3], Integer.parseInt(c.substring(4))) >= 0;
        default: {
          String[] two = c.substring(1).split(",");
          int tack = Integer.parseInt(two[0]), gybe = Integer.parseInt(two[1]);
          if (tack > 60 || gybe > 60) return false;
          loss = new int[] {tack, gybe};
          return true;
        }
      }
    }

    int of(int zone, int span, int what) {
      if (!in(zone, 0, 3) || !in(span, 0, 3) || !in(what, 0, 3)) return -1;
      return new int[] {from[zone][span], force[zone][span], to[zone], rate[zone]}[what];
    }

    int speed(int f, int angle) { return !in(f, 1, 3) || !in(angle, 0, 4) ? -1 : table[f][angle]; }

    int told(int what) {
      if (!in(what, 0, 8)) return -1;
      if (what < 2) return loss[what];
      if (what < 5) return start[what - 2];
      if (what == 5) { int n = 0; for (boolean is : land) if (is) n++; return n; }
      int[] least = leastOfAll();
      int many = 0, most = -1, where = -1;
      for (int square = 0; square < 36; square++) {
        int l = ofBoth(least, square);
        if (l < 0) continue;
        many++;
        if (l > most) { most = l; where = square; }
      }
      return what == 6 ? many : what == 7 ? most : where;
    }

    private static int turn(int a, int b) { return Math.min(Math.floorMod(a - b, 8), Math.floorMod(b - a, 8)); }

    int pace(int square, int heading, int minute) {
      if (!in(square, 0, 35) || !in(heading, 0, 7)) return -1;
      if (!in(minute, 0, 9999)) return -2;
      return rawPace(square, heading, minute);
    }

    private int rawPace(int square, int heading, int minute) {
      int zone = 2 * (square / 6 / 3) + square % 6 / 3, span = minute / 360 % 4;
      int speed = force[zone][span] == 0 ? 0 : table[force[zone][span]][turn(heading, from[zone][span])];
      int half = rate[zone] / 2;
      int add = new int[] {rate[zone], half, 0, -half, -rate[zone]}[turn(heading, to[zone])];
      return speed + add < 1 ? 0 : speed + add;
    }

    /** The legs as they may depart: arriving, departing, the side then, the square. */
    List<int[]> legsFrom(int square, int side, int heading, int minute) {
      List<int[]> legs = new ArrayList<>();
      String north = "701", south = "345", east = "123", west = "567";
      String h = "" + heading;
      int row = square / 6 + (north.contains(h) ? -1 : 0) + (south.contains(h) ? 1 : 0);
      int column = square % 6 + (west.contains(h) ? -1 : 0) + (east.contains(h) ? 1 : 0);
      if (!in(row, 0, 5) || !in(column, 0, 5) || land[6 * row + column]) return legs;
      for (int k = 0; k < 4; k++) {
        int departing = k == 0 ? minute : minute - minute % 360 + 360 * k;
        int pace = rawPace(square, heading, departing);
        if (pace == 0) continue;
        int f = from[2 * (square / 6 / 3) + square % 6 / 3][departing / 360 % 4];
        int off = Math.floorMod(heading - f, 8);
        int then = off >= 1 && off <= 3 ? 0 : off >= 5 ? 1 : side;
        int far = heading % 2 == 0 ? 600 : 850;
        int minutes = far / pace + (far % pace == 0 ? 0 : 1);
        if (then != side) minutes += turn(heading, f) <= 2 ? loss[0] : loss[1];
        legs.add(new int[] {departing + minutes, departing, then, 6 * row + column});
      }
      return legs;
    }

    int leg(int square, int side, int heading, int minute, int what) {
      if (!in(square, 0, 35) || land[square] || !in(side, 0, 1) || !in(heading, 0, 7) || !in(what, 0, 2)) return -1;
      if (!in(minute, 0, 9999)) return -2;
      int[] soonest = null;
      for (int[] leg : legsFrom(square, side, heading, minute)) {
        if (soonest == null || leg[0] < soonest[0]) soonest = leg;
      }
      return soonest == null ? -5 : soonest[what];
    }

    int[] leastOfAll() {
      int[] least = new int[72];
      Arrays.fill(least, -5);
      least[2 * start[0] + start[1]] = start[2];
      boolean changed = true;
      while (changed) {
        changed = false;
        for (int spot = 0; spot < 72; spot++) {
          if (least[spot] < 0) continue;
          for (int heading = 0; heading < 8; heading++) {
            for (int[] leg : legsFrom(spot / 2, spot % 2, heading, least[spot])) {
              int there = 2 * leg[3] + leg[2];
              if (least[there] < 0 || leg[0] < least[there]) { least[there] = leg[0]; changed = true; }
            }
          }
        }
      }
      return least;
    }

    private static int ofBoth(int[] least, int square) {
      int a = least[2 * square], b = least[2 * square + 1];
      return a < 0 ? b : b < 0 ? a : Math.min(a, b);
    }

    int leastTold(int square) { return in(square, 0, 35) ? ofBoth(leastOfAll(), square) : 7; }

    int least(int square, int side) {
      if (!in(square, 0, 35) || !in(side, 0, 2)) return -1;
      int[] least = leastOfAll();
      return side == 2 ? ofBoth(least, square) : least[2 * square + side];
    }

    int last(int square, int side) {
      if (!in(square, 0, 35) || !in(side, 0, 1)) return -1;
      return lastBy(leastOfAll(), square, side);
    }

    private int lastBy(int[] least, int square, int side) {
      int due = least[2 * square + side];
      if (due < 0 || square == start[0] && side == start[1]) return -5;
      for (int spot = 0; spot < 72; spot++) {
        if (least[spot] < 0) continue;
        for (int heading = 0; heading < 8; heading++) {
          for (int[] leg : legsFrom(spot / 2, spot % 2, heading, least[spot])) {
            if (leg[3] == square && leg[2] == side && leg[0] == due) return 100 * (spot / 2) + 10 * (spot % 2) + heading;
          }
        }
      }
      return -5;
    }

    private List<Integer> courseTo(int square) {
      int[] least = leastOfAll();
      int a = least[2 * square], b = least[2 * square + 1];
      if (a < 0 && b < 0) return null;
      int side = a >= 0 && (b < 0 || a <= b) ? 0 : 1;
      List<Integer> way = new ArrayList<>();
      for (int l = lastBy(least, square, side); l != -5; l = lastBy(least, l / 100, l / 10 % 10)) way.add(0, l % 10);
      return way;
    }

    int course(int square, int k) {
      if (!in(square, 0, 35) || k < -1) return -1;
      List<Integer> way = courseTo(square);
      if (way == null) return -5;
      return k == -1 ? way.size() : k < way.size() ? way.get(k) : -5;
    }

    long reckon(int what, int part) {
      if (!in(what, 0, 1) || !in(part, 0, 1)) return Long.MIN_VALUE;
      double q = 0.7071067811865476, x = 0.0, y = 0.0;
      double[] sine = {0.0, q, 1.0, q, 0.0, -q, -1.0, -q}, cosine = {1.0, q, 0.0, -q, -1.0, -q, 0.0, q};
      int minute = start[2];
      for (int heading : headings) {
        double made = (float) rawPace(start[0], heading, minute) / 6.0f;
        x += made * sine[heading];
        y += made * cosine[heading];
        minute += 10;
      }
      long bits = Double.doubleToLongBits(what == 0 ? x : y);
      return part == 0 ? bits >>> 32 : bits & 0xffffffffL;
    }

    long meanPace(int square) {
      if (!in(square, 0, 35)) return Long.MIN_VALUE;
      List<Integer> way = courseTo(square);
      if (way == null) return Long.MIN_VALUE;
      int far = 0;
      for (int heading : way) far += heading % 2 == 0 ? 600 : 850;
      int minutes = leastTold(square) - start[2];
      return Float.floatToIntBits(minutes == 0 ? 0.0f : (float) far / (float) minutes);
    }

    private static int tell(List<int[]> rows, int most, int square, int minute) {
      if (square == -1) { rows.clear(); return 0; }
      if (!in(square, 0, 35)) return -1;
      if (!in(minute, 0, 99999)) return -2;
      if (rows.size() == most) return -4;
      rows.add(new int[] {square, minute});
      return rows.size();
    }

    int see(int square, int minute) { return tell(seen, 5, square, minute); }

    int fits(int zone, int span, int what) {
      if (!in(zone, 0, 3) || !in(span, 0, 3) || !in(what, 0, 1)) return -1;
      int many = 0, least = -5;
      for (int f = 0; f < 8; f++) {
        Oracle other = like();
        other.from[zone][span] = f;
        boolean fit = true;
        int[] all = other.leastOfAll();
        for (int[] row : seen) fit &= ofBoth(all, row[0]) >= 0 && ofBoth(all, row[0]) <= row[1];
        if (!fit) continue;
        many++;
        if (least == -5) least = f;
      }
      return what == 0 ? many : least;
    }

    private static long fraction(long above, long below, int part) {
      long by = BigInteger.valueOf(above).gcd(BigInteger.valueOf(below)).longValue();
      return (part == 0 ? above : below) / by;
    }

    long odds(int zone, int span, int square, int minute, int part) {
      if (!in(zone, 0, 3) || !in(span, 0, 3) || !in(square, 0, 35)) return Long.MIN_VALUE;
      if (!in(minute, 0, 99999) || !in(part, 0, 1)) return Long.MIN_VALUE;
      int many = 0;
      for (int f = 0; f < 8; f++) {
        Oracle other = like();
        other.from[zone][span] = f;
        int l = other.leastTold(square);
        if (l >= 0 && l <= minute) many++;
      }
      return fraction(many, 8, part);
    }

    long mean(int part) {
      if (!in(part, 0, 1)) return Long.MIN_VALUE;
      int[] least = leastOfAll();
      long sum = 0, many = 0;
      for (int square = 0; square < 36; square++) {
        if (ofBoth(least, square) < 0) continue;
        sum += ofBoth(least, square) - start[2];
        many++;
      }
      return fraction(sum, many, part);
    }

    int event(int what, int n) {
      if (what == -1) { events.clear(); return 0; }
      if (!in(what, 0, 3) || what != 2 && !in(n, 0, 3)) return -1;
      if (what == 2 && !in(n, 0, 7)) return -2;
      if (events.size() == 8) return -4;
      events.add(new int[] {what, n});
      return events.size();
    }

    int after(int what) {
      if (!in(what, 0, 2)) return -1;
      Oracle other = like();
      for (int[] e : events) {
        for (int zone = 0; zone < 4; zone++) {
          for (int span = 0; span < 4; span++) {
            if (e[0] == 0 && zone == e[1]) other.force[zone][span] = 0;
            if (e[0] == 1 && zone == e[1] && other.force[zone][span] < 3) other.force[zone][span]++;
            if (e[0] == 2) other.from[zone][span] = (other.from[zone][span] + e[1]) % 8;
          }
        }
        if (e[0] == 3) other.rate[e[1]] = 0;
      }
      int[] least = other.leastOfAll();
      int many = 0, sum = 0;
      for (int square = 0; square < 36; square++) {
        if (ofBoth(least, square) >= 0) { many++; sum += ofBoth(least, square); }
      }
      return what == 0 ? ofBoth(least, 35) : what == 1 ? many : sum;
    }

    int book(int square, int minute) { return tell(book, 8, square, minute); }

    int looked() {
      for (int i = 0; i < book.size(); i++) if (leastTold(book.get(i)[0]) != book.get(i)[1]) return i;
      return -5;
    }

    int judge(int tape, int i) {
      if (!in(tape, 0, 5)) return -1;
      if (tapes[tape] == null) return 100;
      if (!(tapes[tape] instanceof int[])) return -12;
      int[] row = (int[]) tapes[tape];
      if (i < 0) return 100;
      int[] least = leastOfAll();
      for (int square = 0; square < 36; square++) {
        if ((long) i + square >= row.length) return 100 + square;
        if (row[i + square] != Math.max(-1, ofBoth(least, square))) return square;
      }
      return -5;
    }

    int image() { image = like(); return told(5); }

    int undo() {
      if (image == null) return -3;
      put(image, this);
      return told(5);
    }

    int count(int what) {
      if (!in(what, 0, 4)) return -2;
      return new int[] {seen.size(), events.size(), book.size(), text.length(), headings.size()}[what];
    }

    int tape(int tape, int sort, int n) {
      if (!in(tape, 0, 5)) return -1;
      if (sort == -1) { tapes[tape] = null; return 1; }
      if (!in(sort, 0, 4) || n > 60) return -2;
      if (n < 0) return -14;
      tapes[tape] = sort == 0 ? new byte[n] : sort == 1 ? new short[n] : sort == 2 ? new int[n]
          : sort == 3 ? (Object) new long[n] : new boolean[n];
      return 1;
    }

    int item(int tape, int i, long v) {
      if (!in(tape, 0, 5)) return -1;
      Object row = tapes[tape];
      if (row == null) return -11;
      if (!in(i, 0, java.lang.reflect.Array.getLength(row) - 1)) return -13;
      if (row instanceof byte[]) ((byte[]) row)[i] = (byte) v;
      else if (row instanceof short[]) ((short[]) row)[i] = (short) v;
      else if (row instanceof int[]) ((int[]) row)[i] = (int) v;
      else if (row instanceof long[]) ((long[]) row)[i] = v;
      else ((boolean[]) row)[i] = v != 0;
      return 1;
    }

    long peek(int tape, int i) {
      if (!in(tape, 0, 5) || tapes[tape] == null) return Long.MIN_VALUE;
      if (!in(i, 0, java.lang.reflect.Array.getLength(tapes[tape]) - 1)) return Long.MIN_VALUE;
      Object item = java.lang.reflect.Array.get(tapes[tape], i);
      return item instanceof Boolean ? ((Boolean) item ? 1 : 0) : ((Number) item).longValue();
    }

    int shift(int tape, int i, int other, int j, int n) {
      if (!in(tape, 0, 5) || !in(other, 0, 5)) return -1;
      if (tapes[tape] == null || tapes[other] == null) return -11;
      if (tapes[tape].getClass() != tapes[other].getClass()) return -12;
      BigInteger far = BigInteger.valueOf(n), long1 = lengthOf(tape), long2 = lengthOf(other);
      if (n < 0 || i < 0 || j < 0) return -13;
      if (far.add(BigInteger.valueOf(i)).compareTo(long1) > 0) return -13;
      if (far.add(BigInteger.valueOf(j)).compareTo(long2) > 0) return -13;
      System.arraycopy(tapes[tape], i, tapes[other], j, n);
      return n;
    }

    private BigInteger lengthOf(int tape) {
      return BigInteger.valueOf(java.lang.reflect.Array.getLength(tapes[tape]));
    }
  }
}
