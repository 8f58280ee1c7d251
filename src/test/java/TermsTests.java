/**
 * The sentences of the document's Terms that name an edge, each with a test of its own.
 * What is due is worked out here by counting, not as the class does it.
 */
public final class TermsTests {
  private static final int SQUARES = 36, HEADINGS = 8;
  private static final long NO = Long.MIN_VALUE;
  private static final double Q = 0.7071067811865476;
  private static final double[] SINE = {0.0, Q, 1.0, Q, 0.0, -Q, -1.0, -Q}, COSINE = {1.0, Q, 0.0, -Q, -1.0, -Q, 0.0, Q};
  private static int wrong = 0, asked = 0, sentences = 0;
  private static String words = "";
  private static SailCourses x;

  public static void main(String[] args) {
    squaresAndWinds();
    legs();
    leastAndCourses();
    setUps();
    reckoning();
    surmises();
    images();
    tapes();
    System.out.println(wrong == 0 ? "terms: " + sentences + " sentences hold, by " + asked + " answers"
        : "terms: " + wrong + " of " + asked + " answers are not as due");
    if (wrong != 0) System.exit(1);
  }

  private static void sentence(String says, Runnable test) {
    words = says;
    sentences++;
    x = new SailCourses();
    test.run();
  }

  private static void due(String call, long got, long want) {
    asked++;
    if (got == want) return;
    wrong++;
    System.out.println("\"" + words + "\": " + call + " answered " + got + ", due is " + want);
  }

  // ---- what the sentences are asked of

  private static void windEverywhere(int from, int force) {
    for (int zone = 0; zone < 4; zone++) for (int span = 0; span < 4; span++) x.wind(zone, span, from, force);
  }

  /** By FORCE 2 every HEADING has PACE 9. */
  private static SailCourses fast() {
    SailCourses sea = new SailCourses();
    for (int angle = 0; angle < 5; angle++) sea.table(2, angle, 9);
    return sea;
  }

  private static boolean inside(int row, int column) { return 0 <= row && row < 6 && 0 <= column && column < 6; }

  private static final int[] ROWS = {-1, -1, 0, 1, 1, 1, 0, -1}, COLUMNS = {0, 1, 1, 1, 0, -1, -1, -1};

  /** Steps clockwise from one direction to another. */
  private static int steps(int from, int to) {
    int steps = 0;
    for (int at = from; at != to; at = at == 7 ? 0 : at + 1) steps++;
    return steps;
  }

  private static int apart(int one, int other) { return Math.min(steps(one, other), steps(other, one)); }

  private static void dueLeg(int square, int side, int heading, int minute, int arrives, int departs, int then) {
    String call = "leg " + square + " " + side + " " + heading + " " + minute;
    due(call + " 0", x.leg(square, side, heading, minute, 0), arrives);
    due(call + " 1", x.leg(square, side, heading, minute, 1), departs);
    due(call + " 2", x.leg(square, side, heading, minute, 2), then);
  }

  private static int read(String text) {
    for (int i = 0; i < text.length(); i++) x.feed(text.charAt(i));
    return x.read();
  }

  private static void dueRead(String text, int want) { due("read of " + text, read(text), want); }

  // ---- squares, winds, currents

  private static void squaresAndWinds() {
    sentence("SQUARES 0 .. 35: 6 times the row and the column (0 .. 5 each; row 0 is in the north, column 0 in the west)", TermsTests::besideEachSquare);
    sentence("to the SQUARE beside, that way (there must be one, no LAND, and a PACE)", TermsTests::legNeedsAllThree);
    sentence("ZONE of a SQUARE: 2 times (row by 3, cut), and (column by 3, cut)", TermsTests::zoneOfEachSquare);
    sentence("TURN of two directions: how far they are apart, round about, 0 .. 4", TermsTests::turnsRoundAbout);
    sentence("LAND: SQUARES that can't be sailed into (none at first)", TermsTests::landIsNotSailedInto);
    sentence("SPAN of a minute: minute by 360, cut, modulo 4", TermsTests::spansGoRound);
    sentence("WIND of a ZONE in a SPAN: FROM (a direction; 0 at first), FORCE (0 .. 3; 2 at first)", TermsTests::windsAtFirst);
    sentence("SPEED: by FORCE 0 0", TermsTests::calmHasNoSpeed);
    sentence("as THE TABLE has it by FORCE 1 .. 3 and ANGLE 0 .. 4 (0 .. 9 each", TermsTests::tableEnds);
    sentence("at first by 1: 0, 1, 2, 3, 2; by 2: 0, 2, 4, 5, 4; by 3: 0, 3, 5, 7, 6", TermsTests::tableAtFirst);
    sentence("CURRENT of a ZONE: TO (a direction; 0 at first), RATE (0 .. 3; 0 at first)", TermsTests::currentsAtFirst);
    sentence("0 RATE; 1 half of that, cut; 2 nothing; 3 less half of that, cut; 4 less RATE", TermsTests::currentsAdd);
    sentence("PACE: both together (by FORCE 0 the CURRENT alone)", TermsTests::currentAlone);
    sentence("below 1 there is none", TermsTests::noPaceBelowOne);
  }

  private static void besideEachSquare() {
    for (int square = 0; square < SQUARES; square++) {
      x = fast();
      x.start(square, 0, 0);
      for (int heading = 0; heading < HEADINGS; heading++) {
        int row = square / 6 + ROWS[heading], column = square % 6 + COLUMNS[heading];
        boolean is = inside(row, column);
        String call = "leg from " + square + " by " + heading;
        due(call, x.leg(square, 0, heading, 0, 1), is ? 0 : -5);
        if (!is) continue;
        x.land(6 * row + column, true);
        due(call + " to LAND", x.leg(square, 0, heading, 0, 1), -5);
        x.land(6 * row + column, false);
      }
    }
  }

  private static void legNeedsAllThree() {
    dueLeg(14, 0, 4, 0, 150, 0, 0);
    dueLeg(32, 0, 4, 0, -5, -5, -5);
    x.land(20, true);
    dueLeg(14, 0, 4, 0, -5, -5, -5);
    x.land(20, false);
    dueLeg(14, 0, 4, 0, 150, 0, 0);
    x.table(2, 4, 0);
    dueLeg(14, 0, 4, 0, -5, -5, -5);
  }

  private static void zoneOfEachSquare() {
    // PACE by HEADING 4 tells the ZONE: 0 without force, else the force.
    for (int zone = 0; zone < 4; zone++) x.wind(zone, 0, 0, zone);
    for (int force = 1; force < 4; force++) x.table(force, 4, force);
    String zones = "000111" + "000111" + "000111" + "222333" + "222333" + "222333";
    for (int square = 0; square < SQUARES; square++) due("pace from " + square, x.pace(square, 4, 0), zones.charAt(square) - '0');
  }

  private static void turnsRoundAbout() {
    for (int angle = 0; angle < 5; angle++) x.table(2, angle, angle + 5);
    for (int from = 0; from < HEADINGS; from++) {
      x.wind(0, 0, from, 2);
      for (int heading = 0; heading < HEADINGS; heading++) {
        due("pace by " + heading + ", wind from " + from, x.pace(0, heading, 0), apart(from, heading) + 5);
      }
    }
    x.wind(0, 0, 0, 2);
    for (int angle = 0; angle < 5; angle++) x.table(2, angle, 5);
    int[] adds = {3, 1, 0, -1, -3};
    for (int to = 0; to < HEADINGS; to++) {
      x.current(0, to, 3);
      for (int heading = 0; heading < HEADINGS; heading++) {
        due("pace by " + heading + ", current to " + to, x.pace(0, heading, 0), 5 + adds[apart(to, heading)]);
      }
    }
  }

  private static void landIsNotSailedInto() {
    due("LAND at first", x.told(5), 0);
    for (int square = 0; square < SQUARES; square++) due("LAND at first, " + square, x.land(square, false), 0);
    // 14 is walled in; there the boats start, and can sail nowhere.
    x = fast();
    for (int square : new int[] {7, 8, 9, 13, 15, 19, 20, 21}) x.land(square, true);
    due("start within LAND", x.start(14, 0, 0), 1);
    due("start outside", x.start(0, 0, 0), 27);
    due("within LAND", x.least(14, 2), -5);
    for (int square : new int[] {7, 8, 9, 13, 15, 19, 20, 21}) due("least of LAND", x.least(square, 2), -5);
    // Out of it is another thing: a wall of one square is sailed round.
    for (int square : new int[] {7, 8, 9, 13, 15, 19, 21}) x.land(square, false);
    due("not any more", x.start(14, 0, 0), 35);
  }

  private static void spansGoRound() {
    for (int span = 0; span < 4; span++) x.wind(0, span, 0, span);
    int[] byForce = {0, 2, 4, 6};
    int span = 0;
    for (int begins = 0; begins <= 9999; begins += 360) {
      due("pace at " + begins, x.pace(0, 4, begins), byForce[span]);
      due("pace at " + (begins + 1), x.pace(0, 4, begins + 1), byForce[span]);
      int ends = Math.min(begins + 359, 9999);
      due("pace at " + ends, x.pace(0, 4, ends), byForce[span]);
      span = span == 3 ? 0 : span + 1;
    }
  }

  private static void windsAtFirst() {
    for (int zone = 0; zone < 4; zone++) {
      for (int span = 0; span < 4; span++) {
        due("FROM", x.of(zone, span, 0), 0);
        due("FORCE", x.of(zone, span, 1), 2);
        for (int force = 0; force < 4; force++) {
          for (int from = 0; from < HEADINGS; from += 7) {
            due("wind", x.wind(zone, span, from, force) >= 0 ? 1 : 0, 1);
            due("FROM and FORCE", 10 * x.of(zone, span, 0) + x.of(zone, span, 1), 10 * from + force);
          }
        }
        x.wind(zone, span, 0, 2);
      }
    }
  }

  private static void calmHasNoSpeed() {
    for (int force = 1; force < 4; force++) for (int angle = 0; angle < 5; angle++) x.table(force, angle, 9);
    for (int from = 0; from < HEADINGS; from++) {
      x.wind(0, 0, from, 0);
      for (int heading = 0; heading < HEADINGS; heading++) due("pace by " + heading, x.pace(0, heading, 0), 0);
    }
    due("in another ZONE", x.pace(3, 4, 0), 9);
    due("in another SPAN", x.pace(0, 4, 360), 9);
  }

  private static void tableEnds() {
    for (int force = 1; force < 4; force++) {
      for (int angle = 0; angle < 5; angle++) {
        int first = x.speed(force, angle);
        due("table 9", x.table(force, angle, 9), first);
        due("table 0", x.table(force, angle, 0), 9);
        due("table -1", x.table(force, angle, -1), -2);
        due("table 10", x.table(force, angle, 10), -2);
        due("speed", x.speed(force, angle), 0);
      }
    }
    due("force 0", x.table(0, 0, 0), -1);
    due("force 4", x.table(4, 0, 0), -1);
    due("angle -1", x.table(1, -1, 0), -1);
    due("angle 5", x.table(1, 5, 0), -1);
  }

  private static void tableAtFirst() {
    int[] first = {0, 1, 2, 3, 2, 0, 2, 4, 5, 4, 0, 3, 5, 7, 6};
    for (int i = 0; i < 15; i++) due("speed " + (1 + i / 5) + " " + i % 5, x.speed(1 + i / 5, i % 5), first[i]);
    for (int force = 1; force < 4; force++) {
      x.wind(0, 0, 0, force);
      for (int angle = 0; angle < 5; angle++) due("pace", x.pace(0, angle, 0), first[5 * force - 5 + angle]);
    }
  }

  private static void currentsAtFirst() {
    for (int zone = 0; zone < 4; zone++) {
      due("TO", x.of(zone, 0, 2), 0);
      due("RATE", x.of(zone, 3, 3), 0);
      due("current", x.current(zone, 7, 3), 0);
      due("current", x.current(zone, 0, 0), 73);
      due("current", x.current(zone, 8, 0), -2);
      due("current", x.current(zone, 0, 4), -2);
      due("current", x.current(zone, 7, 3), 0);
    }
  }

  private static void currentsAdd() {
    int[][] byRate = {{0, 0, 0, 0, 0}, {1, 0, 0, 0, -1}, {2, 1, 0, -1, -2}, {3, 1, 0, -1, -3}};
    for (int angle = 0; angle < 5; angle++) x.table(2, angle, 4);
    for (int rate = 0; rate < 4; rate++) {
      for (int to = 0; to < HEADINGS; to++) {
        x.current(0, to, rate);
        due("rate " + rate + " to " + to, x.pace(0, 5, 0), 4 + byRate[rate][apart(5, to)]);
      }
    }
  }

  private static void currentAlone() {
    int[] three = {3, 1, 0, 0, 0}, two = {2, 1, 0, 0, 0}, one = {1, 0, 0, 0, 0};
    x.wind(0, 0, 3, 0);
    for (int[] byTurn : new int[][] {three, two, one, new int[5]}) {
      x.current(0, 6, byTurn[0]);
      for (int heading = 0; heading < HEADINGS; heading++) {
        due("rate " + byTurn[0] + " by " + heading, x.pace(0, heading, 0), byTurn[apart(6, heading)]);
      }
    }
  }

  private static void noPaceBelowOne() {
    for (int v = 0; v < 5; v++) {
      x.table(2, 4, v);
      for (int rate = 0; rate < 4; rate++) {
        x.current(0, 0, rate);
        int pace = Math.max(0, v - rate);
        due("pace, " + v + " less " + rate, x.pace(14, 4, 0), pace);
        due("leg, " + v + " less " + rate, x.leg(14, 0, 4, 0, 0), pace == 0 ? -5 : 600 / pace);
      }
    }
  }

  // ---- sides, losses, legs

  private static void legs() {
    sentence("By a HEADING it becomes 0, if (HEADING less FROM) modulo 8 is 1, 2, 3; 1, if it is 5, 6, 7; else it stays", () -> sidesByTurning(2));
    sentence("all of this by FORCE 0, too", () -> sidesByTurning(0));
    sentence("if it becomes the other one: TACK (0 .. 60; 5 at first), if ANGLE is 2 or less, else GYBE (0 .. 60; 9 at first); else 0", TermsTests::lossEnds);
    sentence("MINUTES: 600 (HEADINGS 1, 3, 5, 7: 850) by PACE, a rest counting as one more, and LOSS", TermsTests::restsCountOneMore);
    sentence("WIND, CURRENT of the SQUARE's ZONE, in that minute's SPAN", TermsTests::windWhereAndWhenItDeparts);
    sentence("From a minute on a LEG may DEPART then, or at the first minute of one of the next three SPANS", TermsTests::departures);
    sentence("The SOONEST of these is that which ARRIVES first", TermsTests::soonestArrivesFirst);
    sentence("of several that which DEPARTS first", TermsTests::soonestOfSeveral);
  }

  private static void sidesByTurning(int force) {
    for (int from = 0; from < HEADINGS; from++) {
      x = fast();
      x.loss(0, 20);
      x.loss(1, 40);
      windEverywhere(from, force);
      for (int heading = 0; heading < HEADINGS; heading++) {
        // With FORCE 0 the current alone takes them along.
        if (force == 0) x.current(0, heading, 3);
        int off = steps(from, heading);
        for (int side = 0; side < 2; side++) {
          int then = off == 0 || off == 4 ? side : off < 4 ? 0 : 1;
          int cost = then == side ? 0 : apart(from, heading) <= 2 ? 20 : 40;
          int sailing = force == 0 ? heading % 2 == 0 ? 200 : 284 : heading % 2 == 0 ? 67 : 95;
          dueLeg(14, side, heading, 0, sailing + cost, 0, then);
        }
      }
    }
  }

  private static void lossEnds() {
    due("TACK at first", x.told(0), 5);
    due("GYBE at first", x.told(1), 9);
    // By FROM 0, with side 1: 1, 2 tack (angles 1, 2), 3 gybes, 4 stays; 6 stays on its side.
    int[] headings = {1, 2, 3, 4, 5, 6, 7}, without = {425, 150, 170, 150, 170, 150, 425};
    for (int tack = 0; tack <= 60; tack += 60) {
      for (int gybe = 0; gybe <= 60; gybe += 60) {
        x.loss(0, tack);
        x.loss(1, gybe);
        int[] cost = {tack, tack, gybe, 0, 0, 0, 0}, otherCost = {0, 0, 0, 0, gybe, tack, tack};
        for (int i = 0; i < 7; i++) {
          due("leg with side 1 by " + headings[i], x.leg(14, 1, headings[i], 0, 0), without[i] + cost[i]);
          due("leg with side 0 by " + headings[i], x.leg(14, 0, headings[i], 0, 0), without[i] + otherCost[i]);
        }
      }
    }
    for (int what = 0; what < 2; what++) {
      due("61", x.loss(what, 61), -2);
      due("below 0", x.loss(what, -1), -2);
      due("it stays", x.told(what), 60);
    }
  }

  private static void restsCountOneMore() {
    int[] straight = {600, 300, 200, 150, 120, 100, 86, 75, 67, 60, 55, 50};
    int[] slanting = {850, 425, 284, 213, 170, 142, 122, 107, 95, 85, 78, 71};
    for (int heading = 0; heading < HEADINGS; heading++) {
      x = new SailCourses();
      x.loss(0, 0);
      x.loss(1, 0);
      for (int pace = 1; pace <= 12; pace++) {
        for (int angle = 0; angle < 5; angle++) x.table(2, angle, pace > 9 ? 9 : pace);
        x.current(0, heading, pace > 9 ? pace - 9 : 0);
        due("pace " + pace + " by " + heading, x.leg(14, 0, heading, 0, 0), (heading % 2 == 0 ? straight : slanting)[pace - 1]);
      }
    }
  }

  private static void windWhereAndWhenItDeparts() {
    // From zone 0 into a calm zone 3, and from there none goes.
    for (int span = 0; span < 4; span++) x.wind(3, span, 0, 0);
    dueLeg(14, 0, 3, 0, 170, 0, 0);
    dueLeg(21, 0, 3, 0, -5, -5, -5);
    dueLeg(21, 0, 7, 0, -5, -5, -5);
    x.current(3, 7, 2);
    dueLeg(21, 0, 7, 0, 425 + 5, 0, 1);
    dueLeg(14, 0, 3, 0, 170, 0, 0);
    // All of a leg goes by the span that it departs in, also SIDE and LOSS.
    x.wind(0, 1, 7, 1);
    x.wind(0, 2, 0, 0);
    x.wind(0, 3, 0, 0);
    dueLeg(14, 0, 4, 359, 509, 359, 0);
    dueLeg(14, 0, 4, 360, 360 + 200 + 9, 360, 1);
    dueLeg(14, 0, 4, 719, 719 + 200 + 9, 719, 1);
    dueLeg(14, 0, 4, 720, 1440 + 150, 1440, 0);
  }

  private static void departures() {
    // Wind in one span alone: who comes in it departs at once, all others at its first minute.
    int[] minutes = {0, 1, 359, 360, 361, 719, 720, 1079, 1080, 1439, 1440, 1441, 9719, 9720, 9999};
    for (int span = 0; span < 4; span++) {
      x = new SailCourses();
      for (int other = 0; other < 4; other++) if (other != span) x.wind(0, other, 0, 0);
      for (int minute : minutes) {
        int departs = minute;
        while (departs / 360 % 4 != span) departs++;
        dueLeg(1, 0, 4, minute, departs + 150, departs, 0);
      }
    }
    // In two of them: at once, or, where the next is faster by more than what is waited, then.
    x = new SailCourses();
    x.table(1, 4, 1);
    x.table(3, 4, 9);
    x.wind(0, 0, 0, 1);
    x.wind(0, 1, 0, 0);
    x.wind(0, 2, 0, 0);
    x.wind(0, 3, 0, 3);
    dueLeg(1, 0, 4, 0, 600, 0, 0);
    dueLeg(1, 0, 4, 359, 959, 359, 0);
    dueLeg(1, 0, 4, 360, 1080 + 67, 1080, 0);
    dueLeg(1, 0, 4, 1440, 1440 + 600, 1440, 0);
  }

  private static void soonestArrivesFirst() {
    x.wind(0, 1, 0, 3);
    // 150 minutes at once, or 100 from 360 on: 310 and 150 make 460 as well.
    dueLeg(1, 0, 4, 309, 459, 309, 0);
    dueLeg(1, 0, 4, 311, 460, 360, 0);
    dueLeg(1, 0, 4, 359, 460, 360, 0);
    dueLeg(1, 0, 4, 360, 460, 360, 0);
  }

  private static void soonestOfSeveral() {
    x.wind(0, 1, 0, 3);
    dueLeg(1, 0, 4, 310, 460, 310, 0);
    // Both wait: pace 1 from 360 on with the same side, pace 3 from 720 on and a GYBE of 40.
    x = new SailCourses();
    x.table(1, 0, 1);
    x.wind(0, 0, 2, 0);
    x.wind(0, 1, 2, 1);
    x.wind(0, 2, 7, 1);
    x.wind(0, 3, 2, 0);
    x.loss(1, 39);
    dueLeg(14, 1, 2, 0, 959, 720, 0);
    x.loss(1, 40);
    dueLeg(14, 1, 2, 0, 960, 360, 1);
    x.loss(1, 41);
    dueLeg(14, 1, 2, 0, 960, 360, 1);
  }

  // ---- the least, the last, courses

  private static void leastAndCourses() {
    sentence("START (a SQUARE, a SIDE, a minute 0 .. 9999; 0, 0, 0 at first)", TermsTests::startEnds);
    sentence("each DEPARTING as it may (not just the SOONEST)", TermsTests::notJustTheSoonest);
    sentence("from the minute on at which one is where it begins (of START: its minute)", TermsTests::fromStartsMinuteOn);
    sentence("of a SQUARE: the less of both SIDES'; none, if there is no way", TermsTests::lessOfBothSides);
    sentence("LAST of a SQUARE and a SIDE (not START; its SQUARE with the other SIDE may have one)", TermsTests::lastOfStart);
    sentence("the first (by SQUARES, then SIDES, then HEADINGS)", TermsTests::lastIsTheFirst);
    sentence("DEPARTING as it may, ARRIVES there, with that SIDE, just at LEAST", TermsTests::lastMayHaveWaited);
    sentence("COURSE to a SQUARE (the SIDE with the less LEAST; of like ones 0)", TermsTests::courseBySide);
    sentence("the LEGS back by LAST to START, told from START on", TermsTests::courseFromStartOn);
  }

  private static void startEnds() {
    due("SQUARE", x.told(2), 0);
    due("SIDE", x.told(3), 0);
    due("minute", x.told(4), 0);
    for (int square = 0; square < SQUARES; square++) due("start " + square, x.start(square, square % 2, 9999), 36);
    due("SQUARE", x.told(2), 35);
    due("SIDE", x.told(3), 1);
    due("minute", x.told(4), 9999);
    due("LEAST of START", x.least(35, 1), 9999);
    due("start 10000", x.start(35, 1, 10000), -2);
    due("start -1", x.start(35, 1, -1), -2);
    due("start 0", x.start(35, 1, 0), 36);
    due("LEAST of START", x.least(35, 1), 0);
  }

  /** Only 14 and 20 are no LAND; from 20 none goes. To 20 in span 0 by side 1, in span 1 by side 0. */
  private static void strait() {
    x.start(14, 0, 0);
    for (int square = 0; square < SQUARES; square++) if (square != 14 && square != 20) x.land(square, true);
    for (int span = 0; span < 4; span++) {
      x.wind(2, span, 0, 0);
      x.wind(0, span, 0, 0);
    }
    x.wind(0, 0, 7, 2);
    x.wind(0, 1, 1, 2);
  }

  private static void notJustTheSoonest() {
    strait();
    dueLeg(14, 0, 4, 0, 129, 0, 1);
    due("by side 1, at once", x.least(20, 1), 129);
    due("by side 0, having waited", x.least(20, 0), 480);
    due("of the SQUARE", x.least(20, 2), 129);
  }

  private static void fromStartsMinuteOn() {
    strait();
    int[][] bySide = {{0, 480, 129}, {100, 480, 229}, {359, 480, 488}, {360, 480, 1569}, {361, 481, 1569}, {719, 839, 1569},
        {720, 1920, 1569}, {1439, 1920, 1569}, {1440, 1920, 1569}, {9999, 10440 + 120, 10080 + 129}};
    for (int[] by : bySide) {
      due("start", x.start(14, 0, by[0]), 2);
      due("LEAST of START", x.least(14, 0), by[0]);
      due("side 0, from " + by[0], x.least(20, 0), by[1]);
      due("side 1, from " + by[0], x.least(20, 1), by[2]);
    }
    // Behind the first leg the minute is that at which one is there: in span 1 with pace 1.
    x = new SailCourses();
    for (int span = 0; span < 4; span++) x.wind(0, span, 0, span == 1 ? 1 : 2);
    x.table(1, 4, 1);
    for (int square : new int[] {1, 7, 13}) x.land(square, true);
    x.start(0, 0, 209);
    due("6 in span 0", x.least(6, 2), 359);
    due("12 in it, too", x.least(12, 2), 509);
    x.start(0, 0, 210);
    due("6 at span 1's first minute", x.least(6, 2), 360);
    due("12 waits for span 2", x.least(12, 2), 720 + 150);
  }

  private static void lessOfBothSides() {
    due("side 0", x.least(6, 0), 150);
    due("side 1", x.least(6, 1), 325);
    due("the less", x.least(6, 2), 150);
    x.start(0, 1, 0);
    due("side 1 now", x.least(6, 1), 150);
    due("the less", x.least(6, 2), 150);
    due("START by its side", x.least(0, 1), 0);
    due("START by the other one: all ways back become side 1", x.least(0, 0), -5);
    due("START", x.least(0, 2), 0);
    for (int square : new int[] {1, 6, 7}) x.land(square, true);
    due("no way", x.least(35, 2), -5);
    due("START", x.least(0, 2), 0);
    x.start(0, 0, 0);
    due("START's other side, no way", x.least(0, 1), -5);
  }

  private static void lastOfStart() {
    due("START", x.last(0, 0), -5);
    due("the other SIDE", x.last(0, 1), 106);
    x.start(0, 1, 0);
    due("START", x.last(0, 1), -5);
    due("the other SIDE: all ways back become side 1", x.last(0, 0), -5);
    x.start(0, 0, 0);
    for (int square : new int[] {1, 6, 7}) x.land(square, true);
    due("the other SIDE without a way", x.last(0, 1), -5);
    due("LAND", x.last(1, 0), -5);
  }

  private static void lastIsTheFirst() {
    windEverywhere(0, 0);
    x.current(0, 2, 2);
    // 300 to the east, 850 slanting: to 8 by 1 or by 7, both at 1150.
    due("LEAST of 8", x.least(8, 0), 1150);
    due("the first SQUARE", x.last(8, 0), 103);
    bothSidesAlike();
    due("2 with side 0", x.least(2, 0), 850);
    due("2 with side 1", x.least(2, 1), 850);
    due("LEAST of 3", x.least(3, 0), 1000);
    due("the first SIDE", x.last(3, 0), 202);
  }

  /** From 14 to 2: by 7 and then with side 0, by 9 and then with side 1, at the same minute. */
  private static void bothSidesAlike() {
    x = new SailCourses();
    x.loss(0, 0);
    x.loss(1, 0);
    for (int square : new int[] {8, 10, 13, 15, 1}) x.land(square, true);
    x.start(14, 0, 0);
  }

  private static void lastMayHaveWaited() {
    strait();
    due("having waited", x.last(20, 0), 1404);
    due("at once", x.last(20, 1), 1404);
    x.start(14, 1, 0);
    due("from the other side, having waited", x.last(20, 0), 1414);
    due("LEAST", x.least(20, 0), 489);
    due("at once", x.last(20, 1), 1414);
    due("LEAST", x.least(20, 1), 120);
  }

  private static void courseBySide() {
    // To 13: heading 6 becomes side 1; with side 0 it is far round.
    x.start(14, 0, 0);
    due("side 1 is there first", x.least(13, 1) < x.least(13, 0) ? 1 : 0, 1);
    due("one leg", x.course(13, -1), 1);
    due("to the west", x.course(13, 0), 6);
    due("side 0 is there first", x.least(15, 0) < x.least(15, 1) ? 1 : 0, 1);
    due("one leg", x.course(15, -1), 1);
    due("to the east", x.course(15, 0), 2);
    bothSidesAlike();
    due("of like ones 0", 10 * x.course(2, 0) + x.course(2, 1), 71);
    due("two legs", x.course(2, -1), 2);
    due("side 1 came by 9", x.last(2, 1), 907);
  }

  private static void courseFromStartOn() {
    due("START", x.course(0, -1), 0);
    due("START has no first", x.course(0, 0), -5);
    windEverywhere(0, 0);
    x.current(0, 2, 2);
    // To 9 by 1 and 2, as of all ways that take 1450 LAST is the first square's.
    int[] way = {2, 2, 3};
    due("legs to 9", x.course(9, -1), 3);
    for (int k = 0; k < 3; k++) due("leg " + k, x.course(9, k), way[k]);
    due("not so many", x.course(9, 3), -5);
    due("no way", x.course(6, -1), -5);
  }

  // ---- set-ups

  private static final String DIGITS = "0123456789", LETTERS = "bclstw", END = ";";
  private static final String TWELVE = "l01;l01;l01;l01;l01;l01;l01;l01;l01;l01;l01;l01";
  /** 7 clauses of 7 bytes, 5 of 8, 11 between: 100. */
  private static final String FULL_TEXT = "b100000;b100000;b100000;b100000;b100000;b100000;b112345;"
      + "s0000000;s0000000;s0000000;s0000000;s3519999";

  private static void setUps() {
    sentence("A set-up is read from THE TEXT (bytes, 100 at most)", TermsTests::textOfAHundred);
    sentence("CLAUSES, 1 to 12, with ; between (none behind the twelfth)", TermsTests::oneToTwelve);
    sentence("w ZONE SPAN FROM FORCE; c ZONE TO RATE; b FORCE and 5 digits", TermsTests::signsThatMayFollow);
    sentence("SQUARE, TACK, GYBE: 1 or 2 digits (SQUARE just 2); minute: 1 to 4", TermsTests::howManyDigits);
    sentence("The FAULT: the place of the first byte with which none begins so", TermsTests::theFirstFault);
    sentence("b FORCE and 5 digits (THE TABLE by that FORCE)", TermsTests::clausesOfTheTable);
    sentence("l SQUARE (LAND, or not any more)", TermsTests::clausesOfLand);
    sentence("s SQUARE SIDE minute (START)", TermsTests::clausesOfStart);
    sentence("t TACK , GYBE (refused as a whole, if one is above 60)", TermsTests::clausesOfLosses);
    sentence("all else: a digit (any one; what may not be isn't done)", TermsTests::clausesOfWindsAndCurrents);
    sentence("Nothing else stands between (no blanks)", TermsTests::nothingElseBetween);
    sentence("the end of THE TEXT, if it ends too early", TermsTests::endsTooEarly);
    sentence("Without FAULT they are done, one behind the other; those that would be refused aren't", TermsTests::oneBehindTheOther);
  }

  private static void textOfAHundred() {
    due("its length here", FULL_TEXT.length(), 100);
    for (int n = 0; n < 100; n++) due("feed", x.feed(FULL_TEXT.charAt(n)), n + 1);
    due("one more", x.feed(';'), -4);
    due("all of it is read", x.read(), 12);
    for (int angle = 0; angle < 5; angle++) due("THE TABLE", x.speed(1, angle), angle + 1);
    due("START", 100000 * x.told(2) + 10000 * x.told(3) + x.told(4), 3519999);
    due("empty then", x.feed('l'), 1);
    due("the end", x.read(), -11);
    String early = FULL_TEXT.substring(0, 91) + ";t1,60;l9";
    due("its length here", early.length(), 100);
    x = new SailCourses();
    dueRead(early, -10 - 97);
    x = new SailCourses();
    dueRead("l01;l01;".repeat(12) + "l01;", -10 - 47);
  }

  private static void oneToTwelve() {
    dueRead("", -10);
    dueRead("l01", 1);
    dueRead(TWELVE, 12);
    dueRead(TWELVE.substring(4), 11);
    dueRead(TWELVE + ";", -10 - 47);
    dueRead(TWELVE + ";l01", -10 - 47);
    dueRead(TWELVE + "l", -10 - 47);
    dueRead(TWELVE.substring(4) + ";", -10 - 44);
    dueRead(";", -10);
    dueRead(";l01", -10);
    dueRead("l01;", -10 - 4);
    dueRead("l01;;l01", -10 - 4);
    due("LAND by those that were done", x.told(5), 0);
  }

  /** Behind each beginning all 128 signs: those that may follow, and no others. */
  private static void signsThatMayFollow() {
    String[][] follow = {{"", LETTERS}, {"w", DIGITS}, {"w9", DIGITS}, {"w99", DIGITS}, {"w999", DIGITS}, {"w9999", END},
        {"c", DIGITS}, {"c9", DIGITS}, {"c99", DIGITS}, {"c999", END}, {"b", DIGITS}, {"b9", DIGITS}, {"b99", DIGITS},
        {"b999", DIGITS}, {"b9999", DIGITS}, {"b99999", DIGITS}, {"b999999", END}, {"l", DIGITS}, {"l9", DIGITS}, {"l99", END},
        {"s", DIGITS}, {"s9", DIGITS}, {"s99", DIGITS}, {"s999", DIGITS}, {"s9999", DIGITS + END}, {"s99999", DIGITS + END},
        {"s999999", DIGITS + END}, {"s9999999", END}, {"t", DIGITS}, {"t9", DIGITS + ","}, {"t99", ","}, {"t9,", DIGITS},
        {"t99,", DIGITS}, {"t9,9", DIGITS + END}, {"t99,9", DIGITS + END}, {"t9,99", END}, {"t99,99", END},
        {"w9999;", LETTERS}, {"t9,9;", LETTERS}, {"s9999;", LETTERS}, {TWELVE, ""}, {TWELVE.substring(4), END}};
    for (String[] one : follow) {
      x = new SailCourses();
      int fed = 0;
      for (char sign = 0; sign < 128; sign++) {
        if (fed > 300) { x = new SailCourses(); fed = 0; }
        fed += one[0].length() + 2;
        boolean fault = read(one[0] + sign) == -10 - one[0].length();
        due("FAULT by sign " + (int) sign + " behind " + one[0], fault ? 1 : 0, one[1].indexOf(sign) < 0 ? 1 : 0);
      }
    }
  }

  private static void howManyDigits() {
    String digits = "0123456";
    for (int n = 0; n < 7; n++) {
      String many = digits.substring(0, n);
      x = new SailCourses();
      dueRead("l" + many, n == 2 ? 1 : n < 2 ? -11 - n : -13);
      dueRead("s02" + many, n < 2 ? -13 - n : n <= 5 ? 1 : -18);
      dueRead("t" + many + ",1", n == 0 ? -11 : n <= 2 ? 1 : -13);
      dueRead("t1," + many, n == 0 ? -13 : n <= 2 ? 1 : -15);
      dueRead("w" + many, n < 4 ? -11 - n : n == 4 ? 1 : -15);
      dueRead("c" + many, n < 3 ? -11 - n : n == 3 ? 1 : -14);
      dueRead("b1" + many, n < 5 ? -12 - n : n == 5 ? 1 : -17);
    }
  }

  private static void theFirstFault() {
    dueRead("x", -10);
    dueRead("xx;x", -10);
    dueRead("l0x;x", -12);
    dueRead("l01;w00x0;l0x", -10 - 7);
    dueRead("t1,1;;x", -10 - 5);
    dueRead("l01l02", -10 - 3);
    dueRead("l01;L02", -10 - 4);
    // Behind what may not be, but is told rightly, it goes on: that is no FAULT.
    dueRead("l99;x", -10 - 4);
    dueRead("w9999;l99;s9999;t99,9;b9x", -10 - 24);
  }

  private static void clausesOfTheTable() {
    for (int force = 0; force < 10; force++) dueRead("b" + force + "97531", force >= 1 && force <= 3 ? 1 : 0);
    for (int force = 1; force < 4; force++) {
      for (int angle = 0; angle < 5; angle++) due("speed", x.speed(force, angle), 9 - 2 * angle);
    }
    dueRead("b200000", 1);
    for (int angle = 0; angle < 5; angle++) due("speed", x.speed(1, angle) + 10 * x.speed(2, angle), 9 - 2 * angle);
  }

  private static void clausesOfLand() {
    dueRead("l35", 1);
    due("LAND", x.told(5), 1);
    due("no LEAST", x.least(35, 2), -5);
    dueRead("l35", 1);
    due("not any more", x.told(5), 0);
    dueRead("l35;l35;l35", 3);
    due("LAND", x.told(5), 1);
    dueRead("l00", 0);
    dueRead("l36;l37;l63;l64;l72;l99", 0);
    due("LAND as before", x.told(5), 1);
    x.start(1, 0, 0);
    dueRead("l00;l01", 1);
    due("LAND at 0", x.told(5), 2);
  }

  private static void clausesOfStart() {
    String[] done = {"s0000", "s0019999", "s3510", "s3500000", "s351007", "s0010"};
    int[] start = {0, 19999, 3510000, 3500000, 3510007, 10000};
    for (int i = 0; i < done.length; i++) {
      dueRead(done[i], 1);
      due("START by " + done[i], 100000 * x.told(2) + 10000 * x.told(3) + x.told(4), start[i]);
    }
    x.land(7, true);
    for (String refused : new String[] {"s3600", "s9900", "s0020", "s0090", "s0700", "s07199"}) {
      dueRead(refused, 0);
      due("START stays", 100000 * x.told(2) + 10000 * x.told(3) + x.told(4), 10000);
    }
    // A start at another square with LAND where it was.
    dueRead("s3500;l00;s0000;l00;s0000", 4);
    due("START", x.told(2), 0);
  }

  private static void clausesOfLosses() {
    String[] done = {"t0,0", "t60,60", "t00,00", "t1,23", "t12,3", "t01,02", "t60,0", "t0,60"};
    int[] losses = {0, 6060, 0, 123, 1203, 102, 6000, 60};
    for (int i = 0; i < done.length; i++) {
      dueRead(done[i], 1);
      due("TACK and GYBE by " + done[i], 100 * x.told(0) + x.told(1), losses[i]);
    }
    for (String refused : new String[] {"t61,0", "t0,61", "t61,61", "t99,60", "t60,99", "t61,1", "t1,61"}) {
      dueRead(refused, 0);
      due("both stay by " + refused, 100 * x.told(0) + x.told(1), 60);
    }
  }

  private static void clausesOfWindsAndCurrents() {
    int[] most = {3, 3, 7, 3};
    for (int place = 0; place < 4; place++) {
      for (int digit = 0; digit < 10; digit++) {
        StringBuilder clause = new StringBuilder("w0000");
        clause.setCharAt(1 + place, (char) ('0' + digit));
        dueRead(clause.toString(), digit <= most[place] ? 1 : 0);
      }
    }
    due("WIND", x.wind(0, 0, 0, 2), 3);
    due("WIND by a FROM of 7", x.wind(3, 0, 0, 2), 0);
    x = new SailCourses();
    int[] mostOfCurrent = {3, 7, 3};
    for (int place = 0; place < 3; place++) {
      for (int digit = 0; digit < 10; digit++) {
        StringBuilder clause = new StringBuilder("c011");
        clause.setCharAt(1 + place, (char) ('0' + digit));
        dueRead(clause.toString(), digit <= mostOfCurrent[place] ? 1 : 0);
      }
    }
    due("CURRENT of 0", x.current(0, 0, 0), 13);
    for (int zone = 1; zone < 4; zone++) due("CURRENT of " + zone, x.current(zone, 0, 0), 11);
  }

  /** | stands where THE TEXT may end. */
  private static final String MARKED = "w0123|;c012|;b112345|;l07|;s3511|2|;t1,6|0|";

  private static void nothingElseBetween() {
    String text = MARKED.replace("|", "");
    for (int place = 0; place <= text.length(); place++) {
      x = new SailCourses();
      dueRead(text.substring(0, place) + " " + text.substring(place), -10 - place);
      if (place == text.length()) continue;
      for (char sign : new char[] {'/', ':', 'x', 'W', 0, 127}) {
        x = new SailCourses();
        dueRead(text.substring(0, place) + sign + text.substring(place + 1), -10 - place);
        due("nothing is done", 100 * x.told(0) + 10 * x.told(5) + x.told(4), 500);
      }
    }
  }

  private static void endsTooEarly() {
    for (int end = 0; end <= MARKED.length(); end++) {
      if (end < MARKED.length() && MARKED.charAt(end) == '|') continue;
      String text = MARKED.substring(0, end).replace("|", "");
      boolean may = end > 0 && MARKED.charAt(end - 1) == '|';
      x = new SailCourses();
      dueRead(text, may ? text.split(";").length : -10 - text.length());
      due("empty then", x.count(3), 0);
      due("TACK", x.told(0), text.contains("t1,6") ? 1 : 5);
    }
    for (String clause : new String[] {"w0123", "c012", "b112345", "l07", "s3511", "t1,6"}) {
      for (int end = 0; end < clause.length(); end++) {
        x = new SailCourses();
        dueRead(clause.substring(0, end), -10 - end);
        dueRead("l08;" + clause.substring(0, end), -10 - 4 - end);
        due("LAND by none", x.told(5), 0);
      }
    }
  }

  private static void oneBehindTheOther() {
    dueRead("s0700;l00;l07", 2);
    due("START, and LAND at 0", 10 * x.told(2) + x.told(5), 71);
    x = new SailCourses();
    dueRead("l07;s0700;l07;s0700", 3);
    due("START at 7", 10 * x.told(2) + x.told(5), 70);
    dueRead("t1,1;t61,1;t2,2;w0444;t3,61", 2);
    due("the last that was done", 100 * x.told(0) + x.told(1), 202);
    dueRead("t5,5;t6,6;t7,", -10 - 13);
    due("none by a FAULT", 100 * x.told(0) + x.told(1), 202);
  }

  // ---- reckoning, mean pace

  private static void reckoning() {
    sentence("RECKONED by some HEADINGS (told by hand, 8 at most): x, y are 0.0 (doubles)", TermsTests::reckonedByNoneToEight);
    sentence("the SQUARE START's (and stays so)", TermsTests::reckonedFromOneSquare);
    sentence("PACE there in that minute's SPAN (0: none), as a float, by 6.0f", TermsTests::reckonedByPaces);
    sentence("times SINE of the HEADING comes to x, times COSINE to y", TermsTests::reckonedByEachHeading);
    sentence("the minute is 10 more", TermsTests::reckonedOverSpans);
    sentence("each without a sign (0 and more)", TermsTests::bitsWithoutASign);
    sentence("by (LEAST less START's minute), as a float (0.0f, if that is 0)", TermsTests::meanPaces);
  }

  private static void dueReckoned(double east, double north) {
    due("x above", x.reckon(0, 0), Double.doubleToLongBits(east) >>> 32);
    due("x below", x.reckon(0, 1), Double.doubleToLongBits(east) << 32 >>> 32);
    due("y above", x.reckon(1, 0), Double.doubleToLongBits(north) >>> 32);
    due("y below", x.reckon(1, 1), Double.doubleToLongBits(north) << 32 >>> 32);
  }

  private static void reckonedByNoneToEight() {
    dueReckoned(0.0, 0.0);
    double east = 0.0, north = 0.0;
    int[] headings = {1, 3, 2, 3, 4, 7, 5, 3}, paces = {2, 5, 4, 5, 4, 2, 5, 5};
    for (int n = 0; n < 8; n++) {
      due("steer", x.steer(headings[n]), n + 1);
      double made = paces[n] / 6.0f;
      east += made * SINE[headings[n]];
      north += made * COSINE[headings[n]];
      dueReckoned(east, north);
    }
    due("a ninth", x.steer(1), -4);
    dueReckoned(east, north);
    due("none then", x.steer(-1), 0);
    dueReckoned(0.0, 0.0);
  }

  private static void reckonedFromOneSquare() {
    // Five slanting headings would have left zone 0; zones 1 to 3 are calm.
    for (int zone = 1; zone < 4; zone++) for (int span = 0; span < 4; span++) x.wind(zone, span, 0, 0);
    double east = 0.0, north = 0.0, made = 5 / 6.0f;
    for (int n = 0; n < 8; n++) {
      x.steer(3);
      east += made * Q;
      north += made * -Q;
    }
    dueReckoned(east, north);
    x.start(21, 0, 0);
    dueReckoned(0.0, 0.0);
  }

  private static void reckonedByPaces() {
    for (int pace = 0; pace <= 12; pace++) {
      x.table(2, 4, Math.min(pace, 9));
      x.current(0, 4, Math.max(pace - 9, 0));
      x.steer(-1);
      x.steer(4);
      double made = pace / 6.0f;
      dueReckoned(0.0, 0.0 - made);
    }
    // Below 1 there is none: nobody is driven back.
    x.table(2, 4, 1);
    x.current(0, 0, 3);
    dueReckoned(0.0, 0.0);
    // Into land and over the edge it is reckoned as well.
    x = new SailCourses();
    x.land(6, true);
    x.steer(4);
    dueReckoned(0.0, -(double) (4 / 6.0f));
    x.steer(-1);
    x.steer(6);
    dueReckoned(-(double) (4 / 6.0f), 0.0);
  }

  private static void reckonedByEachHeading() {
    x = fast();
    double made = 9 / 6.0f;
    for (int heading = 0; heading < HEADINGS; heading++) {
      x.steer(-1);
      x.steer(heading);
      dueReckoned(0.0 + made * SINE[heading], 0.0 + made * COSINE[heading]);
    }
    // There and back is +0.0, not -0.0.
    x.steer(-1);
    x.steer(6);
    x.steer(2);
    x.steer(4);
    x.steer(0);
    dueReckoned(0.0, 0.0);
  }

  private static void reckonedOverSpans() {
    for (int span = 0; span < 4; span++) x.wind(0, span, 0, span);
    int[] byForce = {0, 2, 4, 6};
    int[] starts = {0, 289, 290, 291, 349, 350, 351, 359, 360, 1079, 1080, 1369, 1370, 1430, 1439, 1440, 9709, 9999};
    for (int n = 0; n < 8; n++) x.steer(4);
    for (int start : starts) {
      x.start(0, 0, start);
      double north = 0.0;
      for (int n = 0; n < 8; n++) {
        double made = byForce[(start + 10 * n) / 360 % 4] / 6.0f;
        north -= made;
      }
      dueReckoned(0.0, north);
    }
  }

  private static void bitsWithoutASign() {
    x.steer(5);
    double made = 5 / 6.0f;
    dueReckoned(0.0 + made * -Q, 0.0 + made * -Q);
    for (int what = 0; what < 2; what++) {
      due("the higher 32 are above 2 to the 31st", x.reckon(what, 0) >= 1L << 31 && x.reckon(what, 0) < 1L << 32 ? 1 : 0, 1);
      due("the lower 32", x.reckon(what, 1) >= 0 && x.reckon(what, 1) < 1L << 32 ? 1 : 0, 1);
    }
    // Lower bits with their highest one set stand above 2 to the 31st, too.
    int high = 0;
    for (int v = 1; v < 10; v++) {
      x.table(2, 3, v);
      long lower = x.reckon(0, 1);
      due("lower bits by " + v, lower, Double.doubleToLongBits((double) (v / 6.0f) * -Q) << 32 >>> 32);
      if (lower >= 1L << 31) high++;
    }
    due("some are", high > 0 ? 1 : 0, 1);
  }

  private static void meanPaces() {
    due("START", x.meanPace(0), 0);
    x.start(14, 1, 9999);
    due("START, late", x.meanPace(14), 0);
    due("one leg", x.meanPace(20), Float.floatToIntBits(600f / 150f));
    due("one slanting leg, with a GYBE", x.meanPace(21), Float.floatToIntBits(850f / 179f));
    x.start(0, 0, 0);
    for (int square = 1; square < SQUARES; square++) {
      int far = 0;
      for (int k = 0; k < x.course(square, -1); k++) far += x.course(square, k) % 2 == 0 ? 600 : 850;
      due("to " + square, x.meanPace(square), Float.floatToIntBits((float) far / (float) x.least(square, 2)));
      if (square % 6 == 0) x = new SailCourses();
    }
    // Half a day of waiting makes it less than 1.
    for (int span = 0; span < 3; span++) x.wind(0, span, 0, 0);
    due("below 1", x.meanPace(6), Float.floatToIntBits(600f / 1230f));
    x.land(6, true);
    due("no LEAST", x.meanPace(6), NO);
  }

  // ---- seen, odds, means, events, books

  private static void surmises() {
    sentence("SEEN told by hand: a SQUARE, a minute (0 .. 99999; 5 rows at most)", TermsTests::seenEnds);
    sentence("LEAST of all of SEEN were at most that minute", TermsTests::fitsAtMost);
    sentence("not so, if there is none; all 8 without SEEN", TermsTests::fitsWithoutLeastOrSeen);
    sentence("the least (-5: none)", TermsTests::fitsLeast);
    sentence("were WIND there FROM 0, 1, .. 7, each alike likely: how likely LEAST of the SQUARE is at most that: a fraction in lowest terms", TermsTests::oddsInLowestTerms);
    sentence("LEAST less START's minute of all SQUARES that have LEAST (START's, too), together, by how many they are: a fraction in lowest terms", TermsTests::meanInLowestTerms);
    sentence("0 FORCE in ZONE n is 0, in all SPANS", TermsTests::eventCalm);
    sentence("1 it is 1 more there, 3 at most", TermsTests::eventRises);
    sentence("2 all WINDS are FROM n further round", TermsTests::eventTurns);
    sentence("3 RATE in ZONE n is 0; 8 rows at most", TermsTests::eventCurrentEnds);
    sentence("AFTER, behind all of it: LEAST of SQUARE 35 (-5: none); how many SQUARES have LEAST; all their LEAST (as minutes), together", TermsTests::afterAll);
    sentence("A BOOK told by hand: SQUARES, minutes (0 .. 99999; 8 rows at most)", TermsTests::bookEnds);
    sentence("the number (from 0) of the first of these rows whose LEAST isn't that (-5: none)", TermsTests::lookedAtTheFirst);
  }

  private static void seenEnds() {
    due("0", x.see(0, 0), 1);
    due("99999", x.see(35, 99999), 2);
    due("100000", x.see(0, 100000), -2);
    due("-1", x.see(0, -1), -2);
    for (int n = 3; n <= 5; n++) due("see", x.see(35, 99999), n);
    due("a sixth", x.see(35, 99999), -4);
    due("five", x.count(0), 5);
    // All five count: the last one, too.
    due("all five hold", x.fits(0, 0, 0), 8);
    x.see(-1, 0);
    for (int n = 1; n <= 4; n++) x.see(35, 99999);
    x.see(35, 0);
    due("the fifth does not", x.fits(0, 0, 0), 0);
  }

  private static void fitsAtMost() {
    // To 6 by FROM 0 .. 7, the rest of the wind from 0: 0, 2 take 150, 1 120, 7 129, 6 155, others more.
    int[][] many = {{119, 0}, {120, 1}, {128, 1}, {129, 2}, {149, 2}, {150, 4}, {154, 4}, {155, 5}};
    for (int[] by : many) {
      x.see(-1, 0);
      x.see(6, by[0]);
      due("6 at " + by[0], x.fits(0, 0, 0), by[1]);
    }
    x.see(-1, 0);
    x.see(0, 0);
    due("START at its minute", x.fits(0, 0, 0), 8);
    x.start(0, 0, 1);
    due("START before its minute", x.fits(0, 0, 0), 0);
  }

  private static void fitsWithoutLeastOrSeen() {
    due("without SEEN", x.fits(3, 3, 0), 8);
    due("without SEEN, the least", x.fits(3, 3, 1), 0);
    for (int square : new int[] {1, 6, 7}) x.land(square, true);
    due("without SEEN, walled in", x.fits(0, 0, 0), 8);
    x.see(35, 99999);
    due("no LEAST", x.fits(0, 0, 0), 0);
    due("no LEAST, the least", x.fits(0, 0, 1), -5);
    x.see(-1, 0);
    x.see(0, 0);
    due("START alone", x.fits(0, 0, 0), 8);
    // One of several without LEAST is enough.
    x.see(6, 99999);
    due("START and LAND", x.fits(0, 0, 0), 0);
  }

  private static void fitsLeast() {
    int[][] first = {{119, -5}, {120, 1}, {149, 1}, {150, 0}};
    for (int[] by : first) {
      x.see(-1, 0);
      x.see(6, by[0]);
      due("the least, 6 at " + by[0], x.fits(0, 0, 1), by[1]);
    }
    x.see(-1, 0);
    // To 1 by FROM: 1 and 7 mirror; at most 120 it is 1 + 2 or 7, with 6 as well just 7.
    x.see(1, 120);
    x.see(6, 129);
    due("the greatest of all is the least, if it is alone", x.fits(0, 0, 1), 7);
    due("alone", x.fits(0, 0, 0), 1);
  }

  private static long divisor(long a, long b) { return b == 0 ? a : divisor(b, a % b); }

  private static void oddsInLowestTerms() {
    int[] minutes = {0, 119, 120, 129, 150, 155, 300, 500, 99999};
    boolean[] seen = new boolean[9];
    for (int zone = 0; zone < 2; zone++) {
      for (int minute : minutes) {
        for (int square = 6; square <= 8; square += 2) {
          x = new SailCourses();
          int many = 0;
          for (int from = 0; from < HEADINGS; from++) {
            x.wind(zone, 0, from, 2);
            if (x.least(square, 2) >= 0 && x.least(square, 2) <= minute) many++;
          }
          seen[many] = true;
          long by = divisor(many, 8);
          due(square + " at " + minute + ", above", x.odds(zone, 0, square, minute, 0), many / by);
          due(square + " at " + minute + ", below", x.odds(zone, 0, square, minute, 1), 8 / by);
        }
      }
    }
    for (int many : new int[] {0, 1, 2, 4, 5, 8}) due("some had " + many + " of 8", seen[many] ? 1 : 0, 1);
    x = new SailCourses();
    x.land(35, true);
    due("no LEAST, above", x.odds(0, 0, 35, 99999, 0), 0);
    due("no LEAST, below", x.odds(0, 0, 35, 99999, 1), 1);
  }

  private static void meanInLowestTerms() {
    due("above", x.mean(0), 9925);
    due("below", x.mean(1), 18);
    for (int square : new int[] {1, 6, 7}) x.land(square, true);
    due("START alone, above", x.mean(0), 0);
    due("START alone, below", x.mean(1), 1);
    x.start(0, 0, 9999);
    due("START alone, late, above", x.mean(0), 0);
    due("START alone, late, below", x.mean(1), 1);
    strait();
    x.start(14, 0, 100);
    due("129 and 0, above", x.mean(0), 129);
    due("129 and 0, below", x.mean(1), 2);
    x.loss(1, 10);
    due("130 and 0, above", x.mean(0), 65);
    due("130 and 0, below", x.mean(1), 1);
  }

  private static int leastOf35(SailCourses sea) { return sea.least(35, 2); }

  private static void eventCalm() {
    for (int zone = 0; zone < 4; zone++) {
      x = new SailCourses();
      SailCourses calm = new SailCourses();
      for (int span = 0; span < 4; span++) calm.wind(zone, span, 0, 0);
      for (int span = 0; span < 4; span++) { x.wind(3, span, 1, 3); calm.wind(3, span, 1, zone == 3 ? 0 : 3); }
      x.event(0, zone);
      for (int minute = 0; minute < 1440; minute += 360) {
        x.start(0, 0, minute);
        calm.start(0, 0, minute);
        due("zone " + zone + ", 35", x.after(0), leastOf35(calm));
        due("zone " + zone + ", how many", x.after(1), calm.told(6));
      }
    }
    x.event(-1, 0);
    x.event(0, 0);
    due("START's zone", x.after(0), -5);
    due("START's zone, how many", x.after(1), 1);
  }

  private static void eventRises() {
    // All legs to 12 lie in zone 0: 600 by its pace with angle 4, twice.
    for (int span = 0; span < 4; span++) x.wind(0, span, 0, 0);
    for (int square = 0; square < SQUARES; square++) if (square % 6 != 0) x.land(square, true);
    for (int zone = 2; zone < 4; zone++) for (int span = 0; span < 4; span++) x.wind(zone, span, 0, 0);
    // Squares 0, 6, 12 by zone 0, 18 from 12: all their LEAST together.
    int[] minutes = {0, 300, 150, 100, 100, 100, 100, 100, 100};
    due("FORCE 0", x.after(1), 1);
    for (int n = 1; n <= 8; n++) {
      due("event", x.event(1, 0), n);
      due("how many", x.after(1), 4);
      due("risen " + n + " times", x.after(2), 6 * minutes[n]);
    }
    x.event(-1, 0);
    x.event(1, 1);
    x.event(1, 2);
    x.event(1, 3);
    due("not there", x.after(1), 1);
    due("nothing has changed", x.of(0, 0, 1), 0);
  }

  private static void eventTurns() {
    for (int first = 0; first < HEADINGS; first++) {
      for (int n = 0; n < HEADINGS; n++) {
        x = new SailCourses();
        windEverywhere(first, 2);
        x.wind(3, 1, (first + 3) % 8, 1);
        x.event(2, n);
        int got = x.after(0), sum = x.after(2);
        int then = (first + n) % 8;
        x.event(-1, 0);
        windEverywhere(then, 2);
        x.wind(3, 1, (then + 3) % 8, 1);
        due("from " + first + " by " + n, got, x.least(35, 2));
        due("from " + first + " by " + n + ", together", sum, x.after(2));
      }
    }
    for (int n = 0; n < 8; n++) x.event(2, 7);
    due("eight times 7 is round and back", x.after(0), x.least(35, 2));
    due("n 8", x.event(-1, 0) + x.event(2, 8), -2);
    due("n -1", x.event(2, -1), -2);
  }

  private static void eventCurrentEnds() {
    for (int zone = 0; zone < 4; zone++) {
      x = new SailCourses();
      for (int other = 0; other < 4; other++) x.current(other, 3, 3);
      x.event(3, zone);
      int got = x.after(0), sum = x.after(2);
      due("it only asked", x.of(zone, 0, 3), 3);
      x.current(zone, 3, 0);
      due("zone " + zone, got, x.least(35, 2));
      x.event(-1, 0);
      due("zone " + zone + ", together", sum, x.after(2));
    }
    for (int n = 1; n <= 8; n++) due("event", x.event(3, 0), n);
    due("a ninth", x.event(3, 0), -4);
    due("eight", x.count(1), 8);
    // The eighth counts, too.
    x = new SailCourses();
    for (int n = 1; n <= 7; n++) x.event(2, 0);
    x.event(0, 0);
    due("the eighth", x.after(1), 1);
  }

  private static void afterAll() {
    due("35", x.after(0), 850);
    due("how many", x.after(1), 36);
    due("together", x.after(2), 19850);
    x.start(0, 0, 1000);
    x.wind(0, 0, 0, 2);
    due("as minutes, START's with it", x.after(2), togetherByLeast());
    x.land(35, true);
    due("35 is LAND", x.after(0), -5);
    due("35 is LAND, how many", x.after(1), 35);
    due("35 is LAND, together", x.after(2), togetherByLeast());
    x.land(35, false);
    x.start(35, 1, 9999);
    due("35 is START", x.after(0), 9999);
    // One behind the other: it rises and then it is calm, or the other way round.
    x = new SailCourses();
    x.event(1, 0);
    x.event(0, 0);
    due("calm at last", x.after(1), 1);
    x.event(-1, 0);
    x.event(0, 0);
    x.event(1, 0);
    due("risen at last", x.after(1), 36);
  }

  private static int togetherByLeast() {
    int together = 0;
    for (int square = 0; square < SQUARES; square++) if (x.least(square, 2) >= 0) together += x.least(square, 2);
    return together;
  }

  private static void bookEnds() {
    due("0", x.book(0, 0), 1);
    due("99999", x.book(35, 99999), 2);
    due("100000", x.book(0, 100000), -2);
    due("-1", x.book(0, -1), -2);
    for (int n = 3; n <= 8; n++) due("book", x.book(35, 850), n);
    due("a ninth", x.book(35, 850), -4);
    due("eight", x.count(2), 8);
  }

  private static void lookedAtTheFirst() {
    due("empty", x.looked(), -5);
    for (int wrongRow = 0; wrongRow < 8; wrongRow++) {
      x = new SailCourses();
      for (int row = 0; row < 8; row++) x.book(row, x.least(row, 2));
      due("all are that", x.looked(), -5);
      x.book(-1, 0);
      for (int row = 0; row < 8; row++) x.book(row, x.least(row, 2) + (row >= wrongRow ? 1 : 0));
      due("the first that isn't", x.looked(), wrongRow);
    }
    x = new SailCourses();
    x.book(0, 0);
    x.book(35, 849);
    due("less", x.looked(), 1);
    x.land(35, true);
    due("no LEAST", x.looked(), 1);
    x.start(0, 0, 9);
    due("START at another minute", x.looked(), 0);
  }

  // ---- the image

  private static void images() {
    sentence("THE IMAGE: LAND, WINDS, THE TABLE, CURRENTS, TACK, GYBE, START, HEADINGS told by hand, SEEN, EVENTS, the BOOK", TermsTests::imageOfEach);
    sentence("HEADINGS told by hand, SEEN, EVENTS, the BOOK", TermsTests::imageOfNothingElse);
  }

  private static void imageOfEach() {
    x.image();
    for (int zone = 0; zone < 4; zone++) {
      for (int span = 0; span < 4; span++) {
        x.wind(zone, span, 5, 1);
        due("undo", x.undo(), 0);
        due("WIND", x.wind(zone, span, 0, 2), 2);
      }
      x.current(zone, 6, 3);
      x.undo();
      due("CURRENT", x.current(zone, 0, 0), 0);
    }
    int[] first = {0, 1, 2, 3, 2, 0, 2, 4, 5, 4, 0, 3, 5, 7, 6};
    for (int i = 0; i < 15; i++) {
      x.table(1 + i / 5, i % 5, 9);
      x.undo();
      due("THE TABLE", x.speed(1 + i / 5, i % 5), first[i]);
    }
    for (int square = 1; square < SQUARES; square++) {
      x.land(square, true);
      due("undo", x.undo(), 0);
      due("LAND", x.land(square, false), 0);
    }
    x.loss(0, 60);
    x.loss(1, 60);
    x.start(7, 1, 77);
    x.undo();
    for (int what = 0; what < 5; what++) due("told " + what, x.told(what), what == 0 ? 5 : what == 1 ? 9 : 0);
    x = new SailCourses();
    imageOfRows();
  }

  private static void imageOfRows() {
    x.steer(4);
    x.see(6, 119);
    x.event(0, 0);
    x.book(6, 150);
    due("image", x.image(), 0);
    for (int time = 0; time < 2; time++) {
      x.steer(-1);
      x.see(-1, 0);
      x.event(-1, 0);
      x.book(-1, 0);
      x.undo();
      for (int what : new int[] {0, 1, 2, 4}) due("count " + what, x.count(what), 1);
      dueReckoned(0.0, -(double) (4 / 6.0f));
      due("SEEN", x.fits(0, 0, 0), 0);
      due("EVENTS", x.after(1), 1);
      due("the BOOK", x.looked(), -5);
      x.steer(2);
      x.see(6, 1);
      x.event(1, 0);
      x.book(6, 1);
      x.undo();
      for (int what : new int[] {0, 1, 2, 4}) due("count " + what, x.count(what), 1);
    }
  }

  private static void imageOfNothingElse() {
    x.tape(0, 0, 2);
    x.item(0, 1, 7);
    x.feed('l');
    x.image();
    x.item(0, 1, 8);
    x.tape(1, 3, 1);
    x.feed('0');
    x.feed('7');
    due("undo", x.undo(), 0);
    due("TAPES stay", x.peek(0, 1), 8);
    due("TAPES stay", x.peek(1, 0), 0);
    due("THE TEXT stays", x.count(3), 3);
    due("THE TEXT is read", x.read(), 1);
    due("LAND", x.told(5), 1);
    due("undo", x.undo(), 0);
    due("it is empty", x.count(3), 0);
  }

  // ---- tapes

  private static void tapes() {
    sentence("TAPES 0 .. 5 hold nothing (at first)", TermsTests::tapesAtFirst);
    sentence("a row of 0 bytes, 1 shorts, 2 ints, 3 longs, 4 booleans (items 0, 1)", TermsTests::tapesOfSorts);
    sentence("the first SQUARE that is otherwise; -5: none", TermsTests::judgedOtherwise);
    sentence("100 and how many were looked at, if the row ends ahead of that", TermsTests::judgedRowEnds);
    sentence("or the place is below 0, or the TAPE holds nothing", TermsTests::judgedNothing);
    sentence("LEAST told by a row of ints, from a place on, SQUARE by SQUARE (none: -1)", TermsTests::judgedNone);
  }

  private static void tapesAtFirst() {
    for (int tape = 0; tape < 6; tape++) {
      due("item", x.item(tape, 0, 0), -11);
      due("peek", x.peek(tape, 0), NO);
      due("judge", x.judge(tape, 0), 100);
      due("shift", x.shift(tape, 0, tape, 0, 0), -11);
    }
    due("tape -1", x.tape(-1, 0, 0), -1);
    due("tape 6", x.tape(6, 0, 0), -1);
  }

  private static void tapesOfSorts() {
    long[] values = {0, 1, -1, 127, 128, -128, -129, 255, 256, 32767, 32768, -32768, -32769, 65535, 65536, Integer.MAX_VALUE,
        Integer.MAX_VALUE + 1L, Integer.MIN_VALUE, Integer.MIN_VALUE - 1L, 1L << 32, 1L << 40, Long.MAX_VALUE, Long.MIN_VALUE, 2, 3};
    for (int sort = 0; sort < 5; sort++) {
      x = new SailCourses();
      x.tape(sort, sort, 3);
      for (long v : values) {
        due("item", x.item(sort, 1, v), 1);
        long want = sort == 0 ? (byte) v : sort == 1 ? (short) v : sort == 2 ? (int) v : sort == 3 ? v : v == 0 ? 0 : 1;
        due("sort " + sort + " by " + v, x.peek(sort, 1), want);
      }
      due("ahead", x.peek(sort, 0), 0);
      due("behind", x.peek(sort, 2), 0);
    }
  }

  private static void truth(int tape, int place, int length) {
    x.tape(tape, 2, length);
    for (int square = 0; square < SQUARES && place + square < length; square++) x.item(tape, place + square, x.least(square, 2));
  }

  private static void judgedOtherwise() {
    truth(0, 24, 60);
    due("all as it is", x.judge(0, 24), -5);
    for (int square = SQUARES - 1; square >= 0; square--) {
      x.item(0, 24 + square, x.least(square, 2) + 1);
      due("otherwise from " + square + " on", x.judge(0, 24), square);
    }
    due("from the place behind", x.judge(0, 25), 0);
    x = new SailCourses();
    truth(0, 0, 36);
    due("all as it is", x.judge(0, 0), -5);
    for (int square = 0; square < SQUARES; square++) {
      x.item(0, square, x.least(square, 2) - 1);
      due("just " + square, x.judge(0, 0), square);
      x.item(0, square, x.least(square, 2));
    }
  }

  private static void judgedRowEnds() {
    for (int length = 0; length <= 37; length++) {
      x = new SailCourses();
      truth(0, 0, length);
      due("a row of " + length, x.judge(0, 0), length < 36 ? 100 + length : -5);
      due("from its end", x.judge(0, length), 100);
      due("from beyond its end", x.judge(0, length + 1), 100);
      due("from far beyond", x.judge(0, Integer.MAX_VALUE), 100);
      if (length == 0) continue;
      x.item(0, length - 1, 12345);
      due("its last is otherwise", x.judge(0, 0), length < 37 ? length - 1 : -5);
    }
    // 60 items from 25 on: one too few.
    x = new SailCourses();
    truth(0, 25, 60);
    due("35 squares", x.judge(0, 25), 135);
  }

  private static void judgedNothing() {
    due("nothing", x.judge(0, 0), 100);
    due("nothing, below 0", x.judge(0, -1), 100);
    due("nothing, far beyond", x.judge(0, Integer.MAX_VALUE), 100);
    truth(0, 0, 36);
    due("all as it is", x.judge(0, 0), -5);
    for (int place : new int[] {-1, -2, -36, -37, Integer.MIN_VALUE, Integer.MIN_VALUE + 1}) due("from " + place, x.judge(0, place), 100);
    x.item(0, 0, 5);
    due("from -1, with an item that is otherwise", x.judge(0, -1), 100);
    x.tape(0, -1, 0);
    due("nothing any more", x.judge(0, 0), 100);
  }

  private static void judgedNone() {
    x.land(6, true);
    x.land(35, true);
    truth(0, 0, 36);
    due("-5 isn't none", x.judge(0, 0), 6);
    x.item(0, 6, -1);
    due("-1 is", x.judge(0, 0), 35);
    x.item(0, 35, 0);
    due("0 isn't", x.judge(0, 0), 35);
    x.item(0, 35, -1);
    due("all as it is", x.judge(0, 0), -5);
    x.land(6, false);
    due("-1 is otherwise, where there is LEAST", x.judge(0, 0), 6);
    x.item(0, 0, -1);
    due("START", x.judge(0, 0), 0);
    due("items are as they were", x.peek(0, 0), -1);
    due("LAND as it was", x.told(5), 1);
  }
}
