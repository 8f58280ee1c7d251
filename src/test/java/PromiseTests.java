/**
 * Promise by promise: ordinary inputs, the edges that the document names, wrong inputs.
 * What is due was worked out by hand from the document.
 */
public final class PromiseTests {
  private static final int MIN = Integer.MIN_VALUE, MAX = Integer.MAX_VALUE;
  private static final long NO = Long.MIN_VALUE;
  private static int wrong = 0, promise = 0, asked = 0;
  private static SailCourses x;

  public static void main(String[] args) {
    newObject(); wind(); current(); table(); land(); start(); loss(); steer(); feed(); read(); readFaults();
    of(); speed(); told(); pace(); leg(); legTurning(); least(); leastWaiting(); last(); course();
    reckon(); meanPace(); see(); fits(); odds(); mean(); event(); after(); book(); looked();
    judge(); image(); undo(); count(); tape(); item(); peek(); shift(); constants();
    System.out.println(wrong == 0 ? "promises: all " + asked + " answers are as due"
        : "promises: " + wrong + " of " + asked + " answers are not as due");
    if (wrong != 0) System.exit(1);
  }

  private static void begin(int number) { promise = number; x = new SailCourses(); }

  private static void due(String call, long got, long want) {
    asked++;
    if (got == want) return;
    wrong++;
    System.out.println("promise " + promise + ": " + call + " answered " + got + ", due is " + want);
  }

  private static int feedAll(SailCourses to, String text) {
    int has = 0;
    for (int i = 0; i < text.length(); i++) has = to.feed(text.charAt(i));
    return has;
  }

  private static int readAll(String text) { feedAll(x, text); return x.read(); }

  /** No wind anywhere; a current to the east through zone 0 alone. */
  private static SailCourses drifting() {
    SailCourses sea = new SailCourses();
    for (int zone = 0; zone < 4; zone++) for (int span = 0; span < 4; span++) sea.wind(zone, span, 0, 0);
    sea.current(0, 2, 2);
    return sea;
  }

  private static void newObject() {
    begin(1);
    for (int zone = 0; zone < 4; zone++) {
      for (int span = 0; span < 4; span++) {
        for (int what = 0; what < 4; what++) due("of", x.of(zone, span, what), what == 1 ? 2 : 0);
      }
    }
    int[] first = {0, 1, 2, 3, 2, 0, 2, 4, 5, 4, 0, 3, 5, 7, 6};
    for (int i = 0; i < 15; i++) due("speed", x.speed(1 + i / 5, i % 5), first[i]);
    int[] told = {5, 9, 0, 0, 0, 0, 36, 850, 35, -1};
    for (int what = 0; what < 10; what++) due("told " + what, x.told(what), told[what]);
    for (int what = 0; what < 5; what++) due("count " + what, x.count(what), 0);
    for (int tape = 0; tape < 6; tape++) due("item", x.item(tape, 0, 1), -11);
    due("undo", x.undo(), -3);
    due("read", x.read(), -10);
    due("looked", x.looked(), -5);
  }

  private static void wind() {
    begin(2);
    due("wind", x.wind(0, 0, 4, 3), 2);
    due("wind", x.wind(0, 0, 7, 0), 43);
    due("wind", x.wind(0, 0, 0, 1), 70);
    due("wind elsewhere", x.wind(3, 3, 7, 3), 2);
    due("of beside", x.of(3, 2, 0), 0);
    due("of there", 10 * x.of(3, 3, 0) + x.of(3, 3, 1), 73);
    int[][] refused = {{-1, 0, 0, 0, -1}, {4, 0, 0, 0, -1}, {0, -1, 0, 0, -1}, {0, 4, 0, 0, -1}, {MIN, MAX, 9, 9, -1},
        {0, 0, -1, 0, -2}, {0, 0, 8, 0, -2}, {0, 0, 0, -1, -2}, {0, 0, 0, 4, -2}, {0, 0, MAX, MIN, -2}, {4, 0, 8, 0, -1}};
    for (int[] r : refused) due("wind refused", x.wind(r[0], r[1], r[2], r[3]), r[4]);
    due("unchanged", x.wind(0, 0, 0, 1), 1);
  }

  private static void current() {
    begin(3);
    due("current", x.current(0, 2, 3), 0);
    due("current", x.current(0, 7, 0), 23);
    due("current", x.current(0, 0, 0), 70);
    due("current", x.current(3, 7, 3), 0);
    int[][] refused = {{-1, 0, 0, -1}, {4, 0, 0, -1}, {MAX, 8, 4, -1}, {0, -1, 0, -2}, {0, 8, 0, -2}, {0, 0, -1, -2}, {0, 0, 4, -2}};
    for (int[] r : refused) due("current refused", x.current(r[0], r[1], r[2]), r[3]);
    due("unchanged", x.current(0, 0, 0), 0);
    due("all spans", x.of(3, 0, 2) * 1000 + x.of(3, 1, 3) * 100 + x.of(3, 3, 2) * 10 + x.of(3, 3, 3), 7373);
  }

  private static void table() {
    begin(4);
    due("table", x.table(1, 0, 9), 0);
    due("table", x.table(1, 0, 0), 9);
    due("table", x.table(3, 4, 1), 6);
    due("table", x.table(2, 3, 1), 5);
    int[][] refused = {{0, 0, 1, -1}, {4, 0, 1, -1}, {1, -1, 1, -1}, {1, 5, 1, -1}, {MIN, 0, 1, -1}, {1, MAX, 10, -1}, {1, 1, -1, -2}, {1, 1, 10, -2}};
    for (int[] r : refused) due("table refused", x.table(r[0], r[1], r[2]), r[3]);
    due("unchanged", x.speed(1, 1), 1);
    due("it is sailed by", x.pace(0, 3, 0), 1);
  }

  private static void land() {
    begin(5);
    due("land", x.land(35, true), 0);
    due("land again", x.land(35, true), 1);
    due("no least", x.least(35, 2), -5);
    due("land no more", x.land(35, false), 1);
    due("land no more again", x.land(35, false), 0);
    due("least again", x.least(35, 2), 850);
    due("below", x.land(-1, true), -1);
    due("beyond", x.land(36, false), -1);
    due("of start", x.land(0, true), -3);
    due("of start, not", x.land(0, false), 0);
    due("none", x.told(5), 0);
  }

  private static void start() {
    begin(6);
    due("start", x.start(35, 1, 9999), 36);
    due("square", x.told(2), 35);
    due("side", x.told(3), 1);
    due("minute", x.told(4), 9999);
    int[][] refused = {{-1, 0, 0, -1}, {36, 0, 0, -1}, {0, -1, 0, -1}, {0, 2, 0, -1}, {0, 2, -1, -1}, {0, 0, -1, -2}, {0, 0, 10000, -2}};
    for (int[] r : refused) due("start refused", x.start(r[0], r[1], r[2]), r[3]);
    due("land", x.land(14, true), 0);
    due("start on land", x.start(14, 0, 0), -3);
    due("start on land, bad minute", x.start(14, 0, 10000), -2);
    due("unchanged", x.told(2), 35);
    for (int square : new int[] {1, 6, 7}) due("land", x.land(square, true), 0);
    due("walled in", x.start(0, 0, 0), 1);
    due("outside", x.start(35, 0, 0), 31);
  }

  private static void loss() {
    begin(7);
    due("tack", x.loss(0, 0), 5);
    due("tack", x.loss(0, 60), 0);
    due("gybe", x.loss(1, 60), 9);
    due("gybe", x.loss(1, 1), 60);
    int[][] refused = {{-1, 0, -1}, {2, 0, -1}, {2, 61, -1}, {0, -1, -2}, {0, 61, -2}, {1, MAX, -2}};
    for (int[] r : refused) due("loss refused", x.loss(r[0], r[1]), r[2]);
    due("tack is", x.told(0), 60);
    due("gybe is", x.told(1), 1);
  }

  private static void steer() {
    begin(8);
    due("none", x.steer(8), -1);
    due("none", x.steer(-2), -1);
    for (int n = 1; n <= 8; n++) due("steer", x.steer(n - 1), n);
    due("full", x.steer(0), -4);
    due("none before full", x.steer(8), -1);
    due("how many", x.count(4), 8);
    due("all gone", x.steer(-1), 0);
    due("anew", x.steer(7), 1);
  }

  private static void feed() {
    begin(9);
    due("bad", x.feed(-1), -2);
    due("bad", x.feed(128), -2);
    due("least sign", x.feed(0), 1);
    due("greatest sign", x.feed(127), 2);
    for (int n = 3; n <= 100; n++) due("feed", x.feed('l'), n);
    due("full", x.feed('l'), -4);
    due("bad before full", x.feed(128), -2);
    due("fault", x.read(), -10);
    due("empty then", x.feed('l'), 1);
  }

  private static void read() {
    begin(10);
    due("all kinds", readAll("w1234;c351;b298765;l07;s3519;t1,60"), 5);
    due("wind: force 4 is refused", x.of(1, 2, 1), 2);
    due("current", 10 * x.of(3, 0, 2) + x.of(3, 0, 3), 51);
    for (int angle = 0; angle < 5; angle++) due("table", x.speed(2, angle), 9 - angle);
    due("land", x.told(5), 1);
    due("start", 100 * x.told(2) + 10 * x.told(3) + x.told(4), 3500 + 10 + 9);
    due("losses", 100 * x.told(0) + x.told(1), 160);
    due("emptied", x.read(), -10);
    due("wind", readAll("w1233"), 1);
    due("wind", 10 * x.of(1, 2, 0) + x.of(1, 2, 1), 33);
    due("land and not any more, then again", readAll("l07;l07;l07"), 3);
    due("not any more", x.told(5), 0);
    due("land", readAll("l08"), 1);
    due("no land where start is, no such squares", readAll("l35;l36;l99"), 0);
    due("start on land", readAll("s0800"), 0);
    due("start with four digits", readAll("s0919999"), 1);
    due("start's minute", x.told(4), 9999);
    due("start: side 2, square 36", readAll("s0720;s3600"), 0);
    due("refused as a whole", readAll("t61,0;t0,61;t99,99"), 0);
    due("losses stay", 100 * x.told(0) + x.told(1), 160);
    due("losses", readAll("t0,7"), 1);
    due("losses", 100 * x.told(0) + x.told(1), 7);
    due("what may not be", readAll("w4000;w0400;w0080;c400;c080;c004;b012345;b412345"), 0);
    due("table by 3", readAll("b300009"), 1);
    due("table by 3", x.speed(3, 4), 9);
    due("one behind the other", readAll("l09;s0000;l09"), 2);
    due("what was is 0", readAll("w0000;w0012;c000;c012;b100000;b100000"), 6);
    due("twelve", readAll("l10;l10;l10;l10;l10;l10;l10;l10;l10;l10;l10;l10"), 12);
    due("thirteen", readAll("l10;l10;l10;l10;l10;l10;l10;l10;l10;l10;l10;l10;l10"), -10 - 47);
    due("with a fault none is done", readAll("l11;l12;"), -10 - 8);
    due("none was", x.told(5), 2);
  }

  private static void readFaults() {
    begin(10);
    Object[][] faults = {{"", 0}, {";", 0}, {"l", 1}, {"l1", 2}, {"l1;", 2}, {"l123", 3}, {"l12;", 4}, {"l12;;", 4}, {" l12", 0},
        {"l12 ", 3}, {"w000", 4}, {"w00000", 5}, {"w00x0", 3}, {"c12", 3}, {"c1234", 4}, {"b12345", 6}, {"b1234567", 7},
        {"s35", 3}, {"s350", 4}, {"s350;", 4}, {"s350x", 4}, {"s35012345", 8}, {"t", 1}, {"t,1", 1}, {"t1", 2}, {"t12", 3},
        {"t123", 3}, {"t1,", 3}, {"t1,,", 3}, {"t1,123", 5}, {"t1,x", 3}, {"T1,1", 0}, {"l12l12", 3}, {"l/0", 1}, {"l0:", 2}};
    for (Object[] fault : faults) due("read " + fault[0], readAll((String) fault[0]), -10 - (Integer) fault[1]);
    for (int i = 0; i < 25; i++) feedAll(x, "s000");
    due("a fault ahead of much more", x.read(), -10 - 4);
    String longest = "s0000000;s0000000;s0000000;s0000000;s0000000;s0000000;s0000000;s0000000;s0000000;s0000000;s0000000;";
    due("100 bytes that end too early", readAll(longest + "s"), -110);
    due("nothing changed", x.told(5) + x.told(0) + x.of(0, 0, 0), 5);
  }

  private static void of() {
    begin(11);
    x.wind(1, 3, 6, 1);
    x.current(1, 5, 3);
    int[] is = {6, 1, 5, 3};
    for (int what = 0; what < 4; what++) due("of", x.of(1, 3, what), is[what]);
    int[][] refused = {{-1, 0, 0}, {4, 0, 0}, {0, -1, 0}, {0, 4, 0}, {0, 0, -1}, {0, 0, 4}, {0, 4, 2}, {MAX, MIN, 0}};
    for (int[] r : refused) due("of refused", x.of(r[0], r[1], r[2]), -1);
  }

  private static void speed() {
    begin(12);
    due("speed", x.speed(3, 3), 7);
    due("speed", x.speed(1, 4), 2);
    int[][] refused = {{0, 0}, {4, 0}, {1, -1}, {1, 5}, {MIN, MAX}};
    for (int[] r : refused) due("speed refused", x.speed(r[0], r[1]), -1);
  }

  private static void told() {
    begin(13);
    x = drifting();
    due("start", x.start(0, 1, 70), 10);
    x.loss(0, 11);
    x.loss(1, 12);
    x.land(35, true);
    x.land(34, true);
    // 21 is 3 diagonals away; the first turns by angle 3.
    int[] told = {11, 12, 0, 1, 70, 2, 10, 70 + 12 + 3 * 850, 21, -1};
    for (int what = 0; what < 10; what++) due("told " + what, x.told(what), told[what]);
    due("below", x.told(-1), -1);
    x = new SailCourses();
    due("walls", x.land(1, true) + x.land(6, true) + x.land(7, true), 0);
    due("greatest is start's", x.told(7), 0);
    due("the square is start's", x.told(8), 0);
    x = twoFarthest();
    due("greatest of several", x.told(7), 240);
    due("of several the least square", x.told(8), 2);
    due("the other one", x.least(12, 2), 240);
  }

  /** Boats go north and west alone, 120 minutes a square: from 14 to 2 and to 12, and no farther. */
  private static SailCourses twoFarthest() {
    SailCourses sea = new SailCourses();
    for (int zone = 0; zone < 4; zone++) for (int span = 0; span < 4; span++) sea.wind(zone, span, 3, 2);
    for (int angle = 0; angle < 5; angle++) sea.table(2, angle, angle == 3 ? 5 : 0);
    sea.loss(1, 0);
    for (int square : new int[] {1, 6, 7}) sea.land(square, true);
    sea.start(14, 0, 0);
    return sea;
  }

  private static void pace() {
    begin(14);
    int[] byTurn = {0, 2, 4, 5, 4, 5, 4, 2};
    for (int heading = 0; heading < 8; heading++) due("by the table", x.pace(0, heading, 0), byTurn[heading]);
    x.wind(0, 0, 0, 3);
    int[] adds = {3, 1, 0, -1, -3};
    for (int to = 0; to < 5; to++) {
      x.current(0, (4 + to) % 8, 3);
      due("with a current", x.pace(0, 4, 0), 6 + adds[to]);
      x.current(0, (12 - to) % 8, 3);
      due("with a current", x.pace(0, 4, 0), 6 + adds[to]);
    }
    x.wind(0, 0, 0, 0);
    x.current(0, 0, 1);
    due("the current alone", x.pace(0, 0, 0), 1);
    due("half of 1, cut", x.pace(0, 1, 0), 0);
    due("less than none is none", x.pace(0, 4, 0), 0);
    x.current(0, 0, 2);
    due("half of 2", x.pace(0, 7, 0), 1);
    x.current(0, 0, 0);
    x.wind(0, 1, 0, 1);
    x.wind(0, 2, 0, 2);
    x.wind(0, 3, 0, 3);
    int[][] spans = {{0, 0}, {359, 0}, {360, 2}, {719, 2}, {720, 4}, {1080, 6}, {1439, 6}, {1440, 0}, {1800, 2}, {9999, 6}};
    for (int[] s : spans) due("at " + s[0], x.pace(14, 4, s[0]), s[1]);
    x.wind(1, 0, 4, 1);
    x.wind(2, 0, 4, 2);
    x.wind(3, 0, 4, 3);
    int[][] zones = {{2, 0}, {3, 2}, {14, 0}, {15, 2}, {17, 2}, {18, 4}, {20, 4}, {21, 6}, {35, 6}, {32, 4}};
    for (int[] z : zones) due("from " + z[0], x.pace(z[0], 0, 0), z[1]);
    x.land(3, true);
    due("from land", x.pace(3, 0, 0), 2);
    int[][] refused = {{-1, 0, 0, -1}, {36, 0, 0, -1}, {0, -1, 0, -1}, {0, 8, 0, -1}, {0, 8, -1, -1}, {0, 0, -1, -2}, {0, 0, 10000, -2}};
    for (int[] r : refused) due("pace refused", x.pace(r[0], r[1], r[2]), r[3]);
  }

  private static void dueLeg(int square, int side, int heading, int minute, int arrives, int departs, int then) {
    String call = "leg " + square + " " + side + " " + heading + " " + minute;
    due(call + " 0", x.leg(square, side, heading, minute, 0), arrives);
    due(call + " 1", x.leg(square, side, heading, minute, 1), departs);
    due(call + " 2", x.leg(square, side, heading, minute, 2), then);
  }

  private static void leg() {
    begin(15);
    dueLeg(14, 0, 4, 0, 150, 0, 0);
    dueLeg(14, 0, 3, 0, 170, 0, 0);
    dueLeg(14, 0, 0, 0, -5, -5, -5);
    dueLeg(0, 0, 7, 0, -5, -5, -5);
    dueLeg(5, 0, 2, 0, -5, -5, -5);
    dueLeg(35, 0, 4, 0, -5, -5, -5);
    dueLeg(12, 0, 5, 0, -5, -5, -5);
    x.table(2, 4, 7);
    x.table(2, 3, 7);
    dueLeg(14, 0, 4, 0, 86, 0, 0);
    dueLeg(14, 0, 3, 0, 122, 0, 0);
    x.land(20, true);
    dueLeg(14, 0, 4, 0, -5, -5, -5);
    due("from land", x.leg(20, 0, 4, 0, 0), -1);
    x.table(2, 4, 4);
    x.wind(0, 1, 0, 3);
    x.table(3, 4, 5);
    dueLeg(1, 0, 4, 329, 479, 329, 0);
    dueLeg(1, 0, 4, 330, 480, 330, 0);
    dueLeg(1, 0, 4, 331, 480, 360, 0);
    x.wind(0, 0, 0, 0);
    x.wind(0, 1, 0, 0);
    x.wind(0, 2, 0, 0);
    dueLeg(1, 0, 4, 0, 1230, 1080, 0);
    dueLeg(1, 0, 4, 1439, 1589, 1439, 0);
    dueLeg(1, 0, 4, 1440, 2670, 2520, 0);
    x.wind(0, 3, 0, 0);
    dueLeg(1, 0, 4, 0, -5, -5, -5);
    int[][] refused = {{-1, 0, 0, 0, 0, -1}, {36, 0, 0, 0, 0, -1}, {1, -1, 0, 0, 0, -1}, {1, 2, 0, 0, 0, -1}, {1, 0, -1, 0, 0, -1},
        {1, 0, 8, 0, 0, -1}, {1, 0, 0, 0, -1, -1}, {1, 0, 0, 0, 3, -1}, {1, 0, 0, -1, 3, -1}, {1, 0, 0, -1, 0, -2}, {1, 0, 0, 10000, 0, -2}};
    for (int[] r : refused) due("leg refused", x.leg(r[0], r[1], r[2], r[3], r[4]), r[5]);
  }

  private static void legTurning() {
    begin(15);
    x.loss(0, 20);
    x.loss(1, 40);
    dueLeg(14, 0, 1, 0, 425, 0, 0);
    dueLeg(14, 1, 1, 0, 445, 0, 0);
    dueLeg(14, 1, 2, 0, 170, 0, 0);
    dueLeg(14, 1, 3, 0, 210, 0, 0);
    dueLeg(14, 1, 4, 0, 150, 0, 1);
    dueLeg(14, 0, 5, 0, 210, 0, 1);
    dueLeg(14, 0, 6, 0, 170, 0, 1);
    dueLeg(14, 0, 7, 0, 445, 0, 1);
    dueLeg(14, 1, 7, 0, 425, 0, 1);
    x.wind(0, 0, 6, 2);
    dueLeg(14, 0, 2, 0, 150, 0, 0);
    dueLeg(14, 1, 0, 0, 170, 0, 0);
    dueLeg(14, 0, 3, 0, 210, 0, 1);
    for (int span = 0; span < 4; span++) x.wind(0, span, 0, 0);
    x.current(0, 2, 3);
    dueLeg(14, 1, 2, 0, 220, 0, 0);
    dueLeg(14, 1, 3, 0, 850 + 40, 0, 0);
    dueLeg(14, 0, 2, 0, 200, 0, 0);
    x.current(0, 0, 3);
    dueLeg(14, 1, 0, 0, 200, 0, 1);
  }

  private static void least() {
    begin(16);
    x = drifting();
    int[] least = {0, 300, 600, 900, -5, -5, -5, 850, 1150, 1450, -5, -5, -5, -5, 1700, 2000};
    for (int square = 0; square < 36; square++) {
      int due = square < least.length ? least[square] : square == 21 ? 2550 : -5;
      due("least " + square, x.least(square, 2), due);
      due("least " + square + " 0", x.least(square, 0), due);
      due("least " + square + " 1", x.least(square, 1), -5);
    }
    x.start(0, 1, 1000);
    due("start's side", x.least(0, 1), 1000);
    due("start's other side", x.least(0, 0), -5);
    due("of start", x.least(0, 2), 1000);
    due("with what turning costs", x.least(1, 0), 1305);
    due("once is enough", x.least(2, 0), 1605);
    int[][] refused = {{-1, 0}, {36, 0}, {0, -1}, {0, 3}, {MAX, MIN}};
    for (int[] r : refused) due("least refused", x.least(r[0], r[1]), -1);
    x = new SailCourses();
    due("back with the other side", x.least(0, 1), 305);
    x.table(2, 4, 0);
    due("a faster way round", x.least(12, 2), 170 + 179);
  }

  private static void leastWaiting() {
    begin(16);
    // Calm at first; south wind's boats go in span 2 alone: all wait for it.
    for (int zone = 0; zone < 4; zone++) for (int span = 0; span < 4; span++) x.wind(zone, span, 0, span == 2 ? 2 : 0);
    due("waits for span 2", x.least(6, 2), 870);
    due("goes on within it", x.least(12, 2), 1020);
    due("departs within it", x.least(18, 2), 1170);
    due("waits for the next", x.least(24, 2), 720 + 1440 + 150);
    // The soonest leg isn't the only one: waiting brings the other side.
    x = new SailCourses();
    x.wind(0, 1, 4, 2);
    for (int square : new int[] {2, 6, 7, 8}) x.land(square, true);
    due("at once by side 0", x.least(1, 0), 150);
    // Back at 0 by side 1 (at 305), and off again in span 1, costs no TACK more.
    due("later by side 1", x.least(1, 1), 360 + 150);
  }

  private static void last() {
    begin(17);
    x = drifting();
    due("of start", x.last(0, 0), -5);
    due("of start's other side, not there", x.last(0, 1), -5);
    due("of none", x.last(6, 0), -5);
    due("of 1", x.last(1, 0), 2);
    due("of several the first square", x.last(8, 0), 103);
    due("of 15: 2 legs from 8 or 9 or 14", x.last(15, 0), 803);
    x.start(0, 1, 0);
    due("from start's side", x.last(1, 0), 12);
    int[][] refused = {{-1, 0}, {36, 0}, {0, -1}, {0, 2}, {6, 2}};
    for (int[] r : refused) due("last refused", x.last(r[0], r[1]), -1);
    x = new SailCourses();
    due("start's square with the other side has one", x.last(0, 1), 106);
    x.loss(0, 0);
    x.loss(1, 0);
    x.start(14, 0, 0);
    due("of both sides the first", x.last(2, 1), 907);
    // By heading 2 both sides of 2 become 0 at no cost: the first counts.
    x = bothSidesAlike();
    due("least", x.least(2, 0), 850);
    due("least alike", x.least(2, 1), 850);
    due("the first side", x.last(3, 0), 202);
  }

  /** From 14: 2 by north-west and north-east or the other way round, at the same minute. */
  private static SailCourses bothSidesAlike() {
    SailCourses sea = new SailCourses();
    sea.loss(0, 0);
    sea.loss(1, 0);
    for (int square : new int[] {8, 10, 13, 15, 1}) sea.land(square, true);
    sea.start(14, 0, 0);
    return sea;
  }

  private static void course() {
    begin(18);
    x = drifting();
    due("to start", x.course(0, -1), 0);
    due("to start, 0", x.course(0, 0), -5);
    due("no way", x.course(6, -1), -5);
    due("no way, 0", x.course(6, 0), -5);
    x.start(0, 0, 5);
    due("how many", x.course(15, -1), 3);
    int[] to15 = {2, 3, 3};
    for (int k = 0; k < 3; k++) due("to 15, " + k, x.course(15, k), to15[k]);
    due("not so many", x.course(15, 3), -5);
    due("far beyond", x.course(15, MAX), -5);
    due("to land", x.land(15, true) + x.course(15, -1), -5);
    int[][] refused = {{-1, 0}, {36, 0}, {0, -2}, {6, MIN}};
    for (int[] r : refused) due("course refused", x.course(r[0], r[1]), -1);
    x = bothSidesAlike();
    due("of like sides 0", 10 * x.course(2, 0) + x.course(2, 1), 71);
    due("and not the other", x.last(2, 1), 907);
  }

  private static void dueReckoned(double east, double north) {
    long e = Double.doubleToLongBits(east), n = Double.doubleToLongBits(north);
    due("x above", x.reckon(0, 0), e >>> 32);
    due("x below", x.reckon(0, 1), e & 0xffffffffL);
    due("y above", x.reckon(1, 0), n >>> 32);
    due("y below", x.reckon(1, 1), n & 0xffffffffL);
  }

  private static void reckon() {
    begin(19);
    double q = 0.7071067811865476;
    dueReckoned(0.0, 0.0);
    x.start(14, 0, 350);
    x.wind(0, 1, 4, 3);
    x.wind(0, 0, 0, 2);
    double[] sine = {0.0, q, 1.0, q, 0.0, -q, -1.0, -q}, cosine = {1.0, q, 0.0, -q, -1.0, -q, 0.0, q};
    int[] before = {0, 2, 4, 5, 4, 5, 4, 2}, then = {6, 7, 5, 3, 0, 3, 5, 7};
    for (int heading = 0; heading < 8; heading++) {
      x.steer(-1);
      x.steer(heading);
      double made = (double) (before[heading] / 6.0f);
      dueReckoned(0.0 + made * sine[heading], 0.0 + made * cosine[heading]);
      x.steer(heading);
      double later = (double) (then[heading] / 6.0f);
      dueReckoned(0.0 + made * sine[heading] + later * sine[heading], 0.0 + made * cosine[heading] + later * cosine[heading]);
    }
    x.steer(-1);
    x.steer(1);
    x.steer(6);
    x.steer(3);
    double a = (double) (2 / 6.0f), b = (double) (5 / 6.0f), b2 = (double) (4 / 6.0f), c = (double) (3 / 6.0f);
    dueReckoned(a * q + b * -1.0 + c * q, a * q + b * 0.0 + c * -q);
    // 349 and 10 lie in one span, and 10 more in the next.
    x.start(14, 0, 349);
    dueReckoned(a * q + b2 * -1.0 + c * q, a * q + b2 * 0.0 + c * -q);
    x.steer(-1);
    x.steer(2);
    x.start(14, 0, 0);
    x.steer(6);
    dueReckoned(0.0, 0.0);
    int[][] refused = {{-1, 0}, {2, 0}, {0, -1}, {0, 2}};
    for (int[] r : refused) due("reckon refused", x.reckon(r[0], r[1]), NO);
  }

  private static void meanPace() {
    begin(20);
    due("to start", x.meanPace(0), 0);
    due("850 by 170", x.meanPace(35), Float.floatToIntBits(5.0f));
    x.loss(1, 10);
    x.start(0, 1, 777);
    due("850 by 180", x.meanPace(7), Float.floatToIntBits(850.0f / 180.0f));
    x = drifting();
    x.start(0, 1, 9);
    due("2300 by 2005", x.meanPace(15), Float.floatToIntBits(2300.0f / 2005.0f));
    due("no least", x.meanPace(6), NO);
    due("below", x.meanPace(-1), NO);
    due("beyond", x.meanPace(36), NO);
    x.current(0, 2, 3);
    x.wind(0, 3, 0, 2);
    x.start(0, 0, 1439);
    due("below 1", x.least(1, 2) > 0 ? x.meanPace(1) : 0, Float.floatToIntBits(600.0f / 86.0f));
    x.start(0, 0, 1);
    x.current(0, 2, 0);
    due("waiting counts", x.meanPace(1), Float.floatToIntBits(600.0f / 1229.0f));
  }

  private static void tellRows(boolean seen, int most) {
    int[][] refused = {{-2, 0, -1}, {36, 0, -1}, {36, -1, -1}, {0, -1, -2}, {0, 100000, -2}};
    for (int[] r : refused) due("refused", seen ? x.see(r[0], r[1]) : x.book(r[0], r[1]), r[2]);
    for (int n = 1; n <= most; n++) due("a row", seen ? x.see(35, 99999) : x.book(35, 99999), n);
    due("full", seen ? x.see(0, 0) : x.book(0, 0), -4);
    due("none before full", seen ? x.see(36, 0) : x.book(36, 0), -1);
    due("bad before full", seen ? x.see(0, 100000) : x.book(0, 100000), -2);
    due("how many", x.count(seen ? 0 : 2), most);
    due("gone", seen ? x.see(-1, -7) : x.book(-1, 100000), 0);
    due("none", x.count(seen ? 0 : 2), 0);
    due("anew", seen ? x.see(0, 0) : x.book(0, 0), 1);
  }

  private static void see() {
    begin(21);
    tellRows(true, 5);
  }

  private static void fits() {
    begin(22);
    due("without seen", x.fits(0, 0, 0), 8);
    due("without seen", x.fits(0, 0, 1), 0);
    // To 6, by FROM: 0, 2 take 150; 1 takes 120; 7 that and GYBE, 6 150 and TACK; 3, 4, 5 more.
    x.see(6, 155);
    due("in time", x.fits(0, 0, 0), 5);
    due("the least", x.fits(0, 0, 1), 0);
    x.see(-1, 0);
    x.see(6, 149);
    due("in less time", x.fits(0, 0, 0), 2);
    due("the least", x.fits(0, 0, 1), 1);
    x.see(-1, 0);
    x.see(6, 120 + 9);
    due("one", x.fits(0, 0, 0), 2);
    x.see(1, 120);
    due("both", x.fits(0, 0, 0), 1);
    due("both, the least", x.fits(0, 0, 1), 7);
    x.see(1, 119);
    due("never", x.fits(0, 0, 0), 0);
    due("never, the least", x.fits(0, 0, 1), -5);
    due("elsewhere the wind does not help", x.fits(3, 0, 0), 0);
    x.see(-1, 0);
    x.land(14, true);
    x.see(14, 99999);
    due("no least", x.fits(0, 0, 0), 0);
    int[][] refused = {{-1, 0, 0}, {4, 0, 0}, {0, -1, 0}, {0, 4, 0}, {0, 0, -1}, {0, 0, 2}};
    for (int[] r : refused) due("fits refused", x.fits(r[0], r[1], r[2]), -1);
    due("nothing changed", 10 * x.of(0, 0, 0) + x.of(0, 0, 1), 2);
  }

  private static void odds() {
    begin(23);
    due("5 of 8 above", x.odds(0, 0, 6, 155, 0), 5);
    due("5 of 8 below", x.odds(0, 0, 6, 155, 1), 8);
    due("another zone's wind does not matter", x.odds(3, 0, 6, 155, 0), 1);
    due("back to that zone", x.odds(0, 0, 6, 155, 0), 5);
    due("another span's wind does not matter", x.odds(0, 1, 6, 155, 0), 1);
    due("4 of 8 above", x.odds(0, 0, 6, 154, 0), 1);
    due("4 of 8 below", x.odds(0, 0, 6, 154, 1), 2);
    due("2 of 8 above", x.odds(0, 0, 6, 149, 0), 1);
    due("2 of 8 below", x.odds(0, 0, 6, 149, 1), 4);
    due("none above", x.odds(0, 0, 6, 119, 0), 0);
    due("none below", x.odds(0, 0, 6, 119, 1), 1);
    due("surely above", x.odds(0, 0, 6, 99999, 0), 1);
    due("surely below", x.odds(0, 0, 6, 99999, 1), 1);
    due("start", x.odds(0, 0, 0, 0, 0), 1);
    x.land(6, true);
    due("no least", x.odds(0, 0, 6, 99999, 0), 0);
    int[][] refused = {{-1, 0, 0, 0, 0}, {4, 0, 0, 0, 0}, {0, -1, 0, 0, 0}, {0, 4, 0, 0, 0}, {0, 0, -1, 0, 0},
        {0, 0, 36, 0, 0}, {0, 0, 0, -1, 0}, {0, 0, 0, 100000, 0}, {0, 0, 0, 0, -1}, {0, 0, 0, 0, 2}};
    for (int[] r : refused) due("odds refused", x.odds(r[0], r[1], r[2], r[3], r[4]), NO);
    due("nothing changed", 10 * x.of(0, 0, 0) + x.of(0, 0, 1), 2);
    x.land(6, false);
    x.wind(0, 0, 5, 2);
    due("whatever the wind is", x.odds(0, 0, 6, 155, 0), 5);
    x.wind(0, 0, 5, 0);
    due("by the force that is", x.odds(0, 0, 6, 155, 0), 0);
  }

  private static void mean() {
    begin(24);
    due("above", x.mean(0), 9925);
    due("below", x.mean(1), 18);
    x = drifting();
    x.start(0, 0, 100);
    due("11500 by 10, above", x.mean(0), 1150);
    due("11500 by 10, below", x.mean(1), 1);
    x.land(21, true);
    due("without 21, above", x.mean(0), 300 + 600 + 900 + 850 + 1150 + 1450 + 1700 + 2000);
    due("without 21, below", x.mean(1), 9);
    x.land(1, true);
    x.land(7, true);
    due("start alone above", x.mean(0), 0);
    due("start alone below", x.mean(1), 1);
    due("refused", x.mean(-1), NO);
    due("refused", x.mean(2), NO);
  }

  private static void event() {
    begin(25);
    int[][] refused = {{-2, 0, -1}, {4, 0, -1}, {4, 9, -1}, {0, -1, -1}, {0, 4, -1}, {1, 4, -1}, {3, -1, -1}, {3, 4, -1}, {2, -1, -2}, {2, 8, -2}};
    for (int[] r : refused) due("event refused", x.event(r[0], r[1]), r[2]);
    int[][] rows = {{0, 0}, {1, 3}, {2, 7}, {3, 3}, {2, 0}, {0, 3}, {1, 0}, {3, 0}};
    for (int n = 0; n < 8; n++) due("event", x.event(rows[n][0], rows[n][1]), n + 1);
    due("full", x.event(0, 0), -4);
    due("none before full", x.event(0, 4), -1);
    due("bad before full", x.event(2, 8), -2);
    due("gone", x.event(-1, 99), 0);
    due("anew", x.event(2, 7), 1);
  }

  private static void after() {
    begin(26);
    due("without events", x.after(0), 850);
    due("without events", x.after(1), 36);
    due("without events", x.after(2), 19850);
    x.event(0, 0);
    due("calm: none", x.after(0), -5);
    due("calm: start alone", x.after(1), 1);
    due("calm: start alone", x.after(2), 0);
    x.event(1, 0);
    // FORCE 1 in zone 0: diagonals 284, in zone 3: 170; the first three legs begin in zone 0.
    due("it rises to 1", x.after(0), 284 * 3 + 170 * 2);
    x.event(1, 0);
    due("it rises to 2", x.after(0), 850);
    x.event(1, 0);
    due("it rises to 3", x.after(0), 122 * 3 + 340);
    x.event(1, 0);
    due("3 at most", x.after(0), 122 * 3 + 340);
    x.event(2, 3);
    x.event(2, 5);
    due("round and back", x.after(0), 122 * 3 + 340);
    x.event(-1, 0);
    x.event(2, 4);
    due("from the south", x.after(0), after4());
    due("it only asked", x.least(35, 2), 850);
    x = drifting();
    due("drifting", x.after(1), 10);
    due("drifting", x.after(2), 11500);
    x.current(3, 2, 1);
    due("it drifts on from 21", x.after(1), 12);
    x.event(3, 2);
    due("a current that is none ends", x.after(1), 12);
    x.event(3, 0);
    due("the current ends", x.after(1), 1);
    due("start", x.start(0, 0, 60), 12);
    due("minutes as they are", x.after(2), 60);
    due("refused", x.after(-1), -1);
    due("refused", x.after(3), -1);
  }

  private static int after4() {
    SailCourses other = new SailCourses();
    for (int zone = 0; zone < 4; zone++) for (int span = 0; span < 4; span++) other.wind(zone, span, 4, 2);
    return other.least(35, 2);
  }

  private static void book() {
    begin(27);
    tellRows(false, 8);
  }

  private static void looked() {
    begin(28);
    due("empty", x.looked(), -5);
    x.book(0, 0);
    x.book(35, 850);
    x.book(6, 150);
    due("all true", x.looked(), -5);
    x.book(7, 171);
    x.book(7, 169);
    due("the first that isn't", x.looked(), 3);
    x.land(35, true);
    due("no least isn't that", x.looked(), 1);
  }

  private static void judge() {
    begin(29);
    due("nothing", x.judge(0, 0), 100);
    due("below", x.judge(-1, 0), -1);
    due("beyond", x.judge(6, 0), -1);
    for (int sort : new int[] {0, 1, 3, 4}) {
      x.tape(0, sort, 36);
      due("no ints", x.judge(0, -1), -12);
    }
    x.land(6, true);
    x.land(35, true);
    x.tape(1, 2, 37);
    for (int square = 0; square < 36; square++) {
      int least = x.least(square, 2);
      due("so far", x.judge(1, 1), square == 0 ? 1 : square);
      x.item(1, 1 + square, square == 6 || square == 35 ? -1 : least);
    }
    due("all true", x.judge(1, 1), -5);
    due("from 0 on", x.judge(1, 0), 1);
    due("below 0", x.judge(1, -1), 100);
    due("far below 0", x.judge(1, MIN), 100);
    due("at the end", x.judge(1, 37), 100);
    due("far beyond", x.judge(1, MAX), 100);
    x.tape(2, 2, 10);
    x.shift(1, 1, 2, 0, 10);
    due("it ends", x.judge(2, 0), 110);
    x.item(2, 9, 7);
    due("wrong ahead of the end", x.judge(2, 0), 9);
    x.item(2, 6, -5);
    due("none is -1", x.judge(2, 0), 6);
    due("an empty row", x.tape(2, 2, 0) + x.judge(2, 0), 101);
  }

  private static void image() {
    begin(30);
    x.land(35, true);
    due("image", x.image(), 1);
    x.land(34, true);
    due("another image", x.image(), 2);
    x.land(33, true);
    due("the later one", x.undo(), 2);
  }

  private static void undo() {
    begin(31);
    due("none", x.undo(), -3);
    x.land(35, true);
    x.wind(1, 2, 3, 1);
    x.table(2, 2, 9);
    x.current(2, 5, 1);
    x.loss(0, 33);
    x.loss(1, 44);
    x.start(8, 1, 99);
    x.steer(1);
    x.see(3, 4);
    x.event(2, 1);
    x.book(8, 99);
    feedAll(x, "l0");
    x.image();
    int[] before = state();
    x.undo();
    dueState("undone at once", before);
    change();
    x.tape(0, 0, 1);
    due("undo", x.undo(), 1);
    dueState("undone", before);
    due("the text stays", x.count(3), 3);
    due("tapes stay", x.peek(0, 0), 0);
    change();
    due("undo again", x.undo(), 1);
    dueState("undone again", before);
  }

  private static void change() {
    x.land(35, false);
    x.wind(1, 2, 7, 3);
    x.table(2, 2, 1);
    x.current(2, 1, 3);
    x.loss(0, 1);
    x.loss(1, 2);
    x.start(9, 0, 1);
    x.steer(5);
    x.see(-1, 0);
    x.event(0, 1);
    x.book(-1, 0);
    if (x.count(3) < 3) x.feed('7');
  }

  private static int[] state() {
    return new int[] {x.told(0), x.told(1), x.told(2), x.told(3), x.told(4), x.told(5), x.told(6), x.told(7), x.told(8),
        x.of(1, 2, 0), x.of(1, 2, 1), x.of(2, 0, 2), x.of(2, 0, 3), x.speed(2, 2), x.count(0), x.count(1), x.count(2), x.count(4),
        x.looked(), x.after(0), x.after(2), x.fits(0, 0, 0), (int) x.reckon(0, 0), x.least(21, 2), x.last(21, 1), x.course(21, -1)};
  }

  private static void dueState(String when, int[] before) {
    int[] now = state();
    for (int i = 0; i < now.length; i++) due(when + ", " + i, now[i], before[i]);
  }

  private static void count() {
    begin(32);
    x.see(0, 0);
    for (int n = 0; n < 2; n++) x.event(2, 1);
    for (int n = 0; n < 3; n++) x.book(0, 0);
    for (int n = 0; n < 4; n++) x.feed('x');
    for (int n = 0; n < 5; n++) x.steer(0);
    for (int what = 0; what < 5; what++) due("count", x.count(what), what + 1);
    due("below", x.count(-1), -2);
    due("beyond", x.count(5), -2);
    x.read();
    due("no text", x.count(3), 0);
  }

  private static void tape() {
    begin(33);
    for (int sort = 0; sort < 5; sort++) {
      due("tape", x.tape(sort, sort, 60), 1);
      due("item", x.item(sort, 59, 1), 1);
      due("place", x.item(sort, 60, 1), -13);
      due("again", x.tape(sort, sort, 60), 1);
      due("all 0", x.peek(sort, 59), 0);
    }
    due("an empty row", x.tape(5, 0, 0), 1);
    due("no place in it", x.item(5, 0, 0), -13);
    due("nothing", x.tape(5, -1, -9), 1);
    due("holds nothing", x.item(5, 0, 0), -11);
    due("nothing, whatever n", x.tape(0, -1, 61), 1);
    int[][] refused = {{-1, 0, 0, -1}, {6, 0, 0, -1}, {6, -1, 0, -1}, {1, -2, 0, -2}, {1, 5, 0, -2}, {1, 5, -1, -2},
        {1, 0, 61, -2}, {1, 0, -1, -14}, {1, 4, MIN, -14}, {1, 0, MAX, -2}};
    for (int[] r : refused) due("tape refused", x.tape(r[0], r[1], r[2]), r[3]);
    due("it stays", x.item(1, 59, 1), 1);
  }

  private static void item() {
    begin(34);
    long[] told = {1, -1, 127, 128, 255, 256, 32767, 32768, 65536, 2147483647L, 2147483648L, 1L << 32, Long.MAX_VALUE, Long.MIN_VALUE, 0};
    for (long v : told) {
      long[] due = {(byte) v, (short) v, (int) v, v, v == 0 ? 0 : 1};
      for (int sort = 0; sort < 5; sort++) {
        x.tape(0, sort, 2);
        due("item", x.item(0, 1, v), 1);
        due("it has become, by sort " + sort, x.peek(0, 1), due[sort]);
        due("beside", x.peek(0, 0), 0);
      }
    }
    due("below", x.item(-1, 0, 0), -1);
    due("beyond", x.item(6, 0, 0), -1);
    due("nothing", x.item(1, -1, 0), -11);
    due("place", x.item(0, -1, 0), -13);
    due("place", x.item(0, 2, 0), -13);
    due("place", x.item(0, MAX, 0), -13);
  }

  private static void peek() {
    begin(35);
    due("nothing", x.peek(0, 0), NO);
    x.tape(0, 3, 2);
    x.item(0, 0, 5);
    x.item(0, 1, -6);
    due("peek", x.peek(0, 0), 5);
    due("peek", x.peek(0, 1), -6);
    due("place", x.peek(0, 2), NO);
    due("place", x.peek(0, -1), NO);
    due("tape", x.peek(-1, 0), NO);
    due("tape", x.peek(6, 0), NO);
    x.tape(0, 3, 1);
    due("a shorter row", x.peek(0, 1), NO);
  }

  private static void dueRow(int tape, int... items) {
    for (int i = 0; i < items.length; i++) due("item " + i, x.peek(tape, i), items[i]);
  }

  private static void shift() {
    begin(36);
    for (int tape = 0; tape < 2; tape++) {
      x.tape(tape, 2, 5);
      for (int i = 0; i < 5; i++) x.item(tape, i, 10 * tape + i);
    }
    due("to another", x.shift(0, 1, 1, 2, 3), 3);
    dueRow(1, 10, 11, 1, 2, 3);
    dueRow(0, 0, 1, 2, 3, 4);
    due("forward within", x.shift(0, 0, 0, 1, 4), 4);
    dueRow(0, 0, 0, 1, 2, 3);
    due("back within", x.shift(0, 1, 0, 0, 4), 4);
    dueRow(0, 0, 1, 2, 3, 3);
    due("none at the end", x.shift(0, 5, 1, 5, 0), 0);
    due("all", x.shift(0, 0, 1, 0, 5), 5);
    int[][] places = {{-1, 0, 1}, {0, -1, 1}, {0, 0, -1}, {0, 0, 6}, {3, 0, 3}, {0, 3, 3}, {6, 0, 0}, {0, 6, 0},
        {1, 0, MAX}, {MAX, 0, MAX}, {0, MAX, 1}, {MAX, 0, 1}, {0, MIN, 0}};
    for (int[] p : places) due("no such place", x.shift(0, p[0], 1, p[1], p[2]), -13);
    x.tape(2, 3, 5);
    due("cast", x.shift(0, 0, 2, 0, 1), -12);
    due("cast before place", x.shift(2, -1, 0, 0, 99), -12);
    due("nothing", x.shift(3, 0, 0, 0, 1), -11);
    due("nothing", x.shift(0, 0, 3, -1, 1), -11);
    int[][] tapes = {{-1, 0}, {6, 0}, {0, -1}, {0, 6}, {3, 6}};
    for (int[] t : tapes) due("no such tape", x.shift(t[0], 0, t[1], 0, 1), -1);
    dueRow(1, 0, 1, 2, 3, 3);
  }

  private static void constants() {
    begin(0);
    due("NONE", SailCourses.NONE, -1);
    due("BAD", SailCourses.BAD, -2);
    due("STATE", SailCourses.STATE, -3);
    due("FULL", SailCourses.FULL, -4);
    due("NO", SailCourses.NO, Long.MIN_VALUE);
  }
}
