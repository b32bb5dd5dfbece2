/** What Terms III say of hires, forgers, guards and runs, and promises 23 to 27: each sentence that names an edge. */
final class PlanEdges {
  private static final int LEAST = Integer.MIN_VALUE;
  private static final int GREATEST = Integer.MAX_VALUE;
  private static final String LONG = Check.times("a", 64);

  private PlanEdges() {
  }

  static void run() {
    hired();
    theFewest();
    cantBe();
    forger();
    forgerAndReaders();
    forgerAndGuard();
    comesThrough();
    theBars();
    draws();
    runs();
    hire();
    dries();
    forge();
    bars();
    nearTheLastHour();
    guard();
  }

  private static String reader(String name, int pace, int skips, int pay) {
    return "reader " + name + " pace " + pace + " skips " + skips + " pay " + pay + ";";
  }

  private static void due(WetInk x, int from, int to, int... want) {
    for (int what = 0; what < want.length; what++) {
      Check.due("hire(0, " + from + ", " + to + ", " + what + ")", x.hire(0, from, to, what), want[what]);
    }
  }

  private static void hired() {
    Check.of("III: HIRED: so many of each READER, each of whom goes over a whole LEAF once, dry a span of it, if each WET sign in "
        + "it gets as many eyes as it needs.");
    WetInk x = Check.told("ink i eyes 3;leaf abcdef ink i;" + reader("r", 1, 4, 2));
    due(x, 0, 2, 3, 6, 3);
    x.read(0, 1, 1, 2);
    due(x, 1, 1, 1, 2, 1);
    due(x, 0, 1, 3, 6, 3);
    x.read(0, 0, 1, 3);
    due(x, 0, 1, 0, 0, 0);
    x.seat(0, 0);
    x.hours(5);
    Check.due("one who sits there goes on", x.reader(0, 1), 5);
    due(x, 2, 2, 2, 4, 2);
    due(x, 5, 5, 3, 6, 3);
    WetInk y = Check.told("ink i eyes 1;leaf " + LONG + " ink i;eyes 99 when place=63;" + reader("r", 64, 0, 99));
    due(y, 0, 62, 1, 99, 1);
    due(y, 0, 63, 99, 9801, 99);
  }

  private static void theFewest() {
    Check.of("III: THE FEWEST: of all that do those with the fewest READERS together, then the least pay, then the fewest of the "
        + "first READER, and so on.");
    String book = "ink i eyes 2;leaf abcdef ink i;";
    // place 1 has b, place 2 has a, and c has both but is dear
    due(Check.told(book + reader("a", 1, 2, 0) + reader("b", 1, 3, 0) + reader("c", 1, 0, 99)), 1, 2, 2, 198, 0, 0, 2);
    due(Check.told(book + reader("a", 1, 2, 0) + reader("b", 1, 3, 0) + reader("c", 1, 7, 99)), 0, 2, 2, 198, 0, 0, 2);
    due(Check.told(book + reader("a", 1, 0, 3) + reader("b", 1, 0, 2) + reader("c", 1, 0, 3)), 0, 5, 2, 4, 0, 2, 0);
    due(Check.told(book + reader("a", 1, 0, 2) + reader("b", 1, 0, 2) + reader("c", 1, 0, 3)), 0, 5, 2, 4, 0, 2, 0);
    due(Check.told(book + reader("a", 1, 0, 2) + reader("b", 1, 0, 2) + reader("c", 1, 0, 2)), 0, 5, 2, 4, 0, 0, 2);
    due(Check.told(book + reader("a", 1, 0, 0) + reader("b", 1, 0, 0) + reader("c", 1, 0, 0) + reader("d", 1, 0, 0)), 0, 5,
        2, 0, 0, 0, 0, 2);
    due(Check.told(book + reader("a", 1, 0, 1) + reader("b", 1, 0, 2) + reader("c", 1, 0, 2) + reader("d", 1, 0, 2)), 0, 5,
        2, 2, 2, 0, 0, 0);
    // place 1 has b, c and d, place 2 has a, c and d, place 3 has b alone: two of b, and two more of a, c or d
    WetInk x = Check.told(book + reader("a", 1, 2, 5) + reader("b", 1, 3, 9) + reader("c", 1, 4, 4) + reader("d", 1, 4, 4));
    due(x, 1, 3, 4, 26, 0, 2, 0, 2);
    due(x, 2, 2, 2, 8, 0, 0, 0, 2);
    due(x, 3, 3, 2, 18, 0, 2, 0, 0);
    WetInk y = Check.told(book + reader("a", 1, 2, 5) + reader("b", 1, 3, 9) + reader("c", 1, 4, 3) + reader("d", 1, 4, 4));
    due(y, 1, 3, 4, 24, 0, 2, 2, 0);
    byTrying();
  }

  /** Needs and skips of many kinds, against all counts tried one by one in the order that the document tells. */
  private static void byTrying() {
    int[][] skips = {{2, 3, 4, 5}, {2, 2, 3, 3}, {3, 2, 6, 4}, {2, 4, 8, 3}, {5, 3, 2, 0}, {0, 9, 2, 4}, {2, 3, 5, 7}};
    int[][] pays = {{1, 2, 3, 4}, {4, 3, 2, 1}, {1, 1, 1, 1}, {0, 5, 0, 5}, {5, 0, 5, 0}, {2, 1, 1, 2}};
    String[] needs = {"place-place/4*4", "letter-letter/3*3", "3-letter/9", "1+place/9", "4*place/30"};
    for (int[] skip : skips) {
      for (int[] pay : pays) {
        for (String need : needs) {
          tried(skip, pay, need);
        }
      }
    }
  }

  private static void tried(int[] skip, int[] pay, String need) {
    StringBuilder book = new StringBuilder("ink i eyes 1;leaf qwertyuiopasdfghjklzxcvbnmqwertyu ink i;eyes " + need + " when all;");
    for (int r = 0; r < 4; r++) {
      book.append(reader("r" + (char) ('a' + r), 1, skip[r], pay[r]));
    }
    WetInk x = Check.told(book.toString());
    for (int place = 0; place < 33; place++) {
      boolean seen = false;
      for (int r = 0; r < 4; r++) {
        seen |= looks(skip[r], place);
      }
      if (!seen) {
        x.wipe(0, place, place);
      }
    }
    int[][] spans = {{0, 32}, {1, 11}, {19, 31}, {7, 7}, {11, 29}};
    for (int[] span : spans) {
      due(x, span[0], span[1], fewest(x, skip, pay, span));
    }
  }

  private static boolean looks(int skip, int place) {
    return skip == 0 || (place + 1) % skip != 0;
  }

  private static int[] fewest(WetInk x, int[] skip, int[] pay, int[] span) {
    int[] best = null;
    for (int code = 0; code < 6 * 6 * 6 * 6; code++) {
      int[] n = {code / 216, code / 36 % 6, code / 6 % 6, code % 6};
      int[] row = {n[0] + n[1] + n[2] + n[3], n[0] * pay[0] + n[1] * pay[1] + n[2] * pay[2] + n[3] * pay[3], n[0], n[1], n[2], n[3]};
      if ((best == null || java.util.Arrays.compare(row, best) < 0) && enough(x, skip, n, span)) {
        best = row;
      }
    }
    return best;
  }

  private static boolean enough(WetInk x, int[] skip, int[] n, int[] span) {
    for (int place = span[0]; place <= span[1]; place++) {
      int eyes = 0;
      for (int r = 0; r < 4; r++) {
        eyes += looks(skip[r], place) ? n[r] : 0;
      }
      if (eyes < x.sign(0, place, 1)) {
        return false;
      }
    }
    return true;
  }

  private static void cantBe() {
    Check.of("III: It CAN'T BE, if some such sign is skipped by all.");
    WetInk x = Check.told("ink i eyes 1;leaf abcdef ink i;" + reader("a", 1, 2, 5) + reader("b", 1, 3, 1));
    due(x, 5, 5, -1, -1, -1, -1);
    due(x, 0, 5, -1, -1, -1, -1);
    due(x, 0, 4, 2, 6, 1, 1);
    x.read(0, 5, 5, 1);
    due(x, 0, 5, 2, 6, 1, 1);
    due(x, 5, 5, 0, 0, 0, 0);
    WetInk y = Check.told("ink i eyes 1;leaf abcdef ink i;" + reader("a", 1, 2, 5) + reader("b", 1, 3, 1));
    y.wipe(0, 5, 5);
    due(y, 0, 5, 2, 6, 1, 1);
    y.write(0, 5, 1, 0);
    due(y, 0, 5, -1, -1, -1, -1);
    WetInk none = Check.told("ink i eyes 1;leaf ab ink i;");
    due(none, 0, 0, -1, -1, -1);
    none.wipe(0, 0, 0);
    due(none, 0, 0, 0, 0, -1);
  }

  private static void forger() {
    Check.of("III: A FORGER changes a span, pace signs an HOUR, from its first place on, beginning in an HOUR");
    WetInk x = Check.told("ink i eyes 1;leaf " + LONG + " ink i;");
    for (int pace = 1; pace <= 64; pace++) {
      for (int length : new int[] {1, 2, pace, pace + 1, 2 * pace, 2 * pace + 1, 63, 64}) {
        if (length <= 64) {
          int hours = (length + pace - 1) / pace;
          int from = 64 - length;
          String name = length + " signs by " + pace;
          Check.due(name + " till 200", x.forge(0, from, 63, pace, 200), 200 - hours + 1);
          Check.due(name + " in just as many", x.forge(0, from, 63, pace, hours - 1), 0);
          Check.due(name + " in one fewer", hours > 1 ? x.forge(0, from, 63, pace, hours - 2) : -1, -1);
          Check.due(name + " barred in just as many", x.bars(0, from, 63, pace, hours - 1), 1);
          Check.due(name + " barred in twice as many", x.bars(0, from, 63, pace, 2 * hours - 1), 2);
        }
      }
    }
  }

  private static void forgerAndReaders() {
    Check.of("III: each sign must be WET in the HOUR in which it comes to it (as it is when that HOUR begins, READERS going on as "
        + "they are AT their LEAVES)");
    WetInk x = Check.told("ink i eyes 1;leaf abcdefgh ink i;leaf abcdefgh ink i;" + reader("r", 2, 0, 0));
    x.hours(10);
    x.seat(0, 0);
    // places 0 and 1 dry when hour 10 ends, 2 and 3 when 11 does, and so on
    for (int place = 0; place < 8; place++) {
      Check.due("place " + place, x.forge(0, place, place, 1, 210), 10 + place / 2);
      Check.due("bars of place " + place, x.bars(0, place, place, 1, 210), 1 + place / 2);
    }
    Check.due("as fast as the reader", x.forge(0, 0, 7, 2, 210), 10);
    Check.due("a place ahead of it", x.forge(0, 1, 7, 2, 210), 10);
    Check.due("slower than the reader", x.forge(0, 0, 1, 1, 210), -1);
    Check.due("slower, from further on", x.forge(0, 4, 7, 1, 210), 10);
    Check.due("slower, from not far enough", x.forge(0, 3, 7, 1, 210), -1);
    Check.due("another leaf", x.forge(1, 0, 7, 1, 210), 203);
    x.hours(1);
    Check.due("behind the reader", x.forge(0, 1, 2, 2, 211), -1);
    Check.due("bars behind the reader", x.bars(0, 1, 2, 2, 211), 0);
    Check.due("where the reader is", x.forge(0, 2, 3, 2, 211), 11);
    WetInk y = Check.told("ink i eyes 1;leaf abc ink i;" + reader("r", 2, 0, 0));
    y.seat(0, 0);
    y.hours(1);
    y.seat(0, 0);
    Check.due("a DRY one", y.forge(0, 0, 2, 3, 200), -1);
    Check.due("bars of a DRY one", y.bars(0, 0, 2, 3, 200), 0);
    y.wipe(0, 2, 2);
    Check.due("a BLANK", y.forge(0, 2, 2, 1, 200), -1);
    Check.due("bars of a BLANK", y.bars(0, 2, 2, 1, 200), 0);
    skippedAndPassed();
  }

  private static void skippedAndPassed() {
    WetInk x = Check.told("ink i eyes 2;leaf abcd ink i;" + reader("r", 2, 2, 0) + reader("s", 2, 0, 0));
    x.seat(0, 0);
    Check.due("one eye of two", x.forge(0, 0, 0, 1, 200), 200);
    x.seat(1, 0);
    Check.due("two eyes of two", x.forge(0, 0, 0, 1, 200), 0);
    Check.due("skipped by one of two", x.forge(0, 1, 1, 1, 200), 200);
    Check.due("two eyes an hour later", x.forge(0, 2, 2, 1, 200), 1);
    x.read(0, 1, 1, 1);
    Check.due("one eye of one", x.forge(0, 1, 1, 1, 200), 0);
    x.hours(1);
    // both are just past it: what is written there now they see no more
    x.wipe(0, 3, 3);
    Check.due("ahead of both", x.dries(0, 2, 2), 2);
    WetInk y = Check.told("ink i eyes 3;leaf abcd ink i;" + reader("r", 2, 0, 0));
    y.seat(0, 0);
    y.hours(1);
    y.read(0, 1, 1, 1);
    Check.due("one eye to come, the reader just past", y.dries(0, 1, 1), -1);
    Check.due("so he comes through", y.forge(0, 1, 1, 1, 201), 201);
  }

  private static void forgerAndGuard() {
    Check.of("III: the guard not there in these HOURS");
    WetInk x = Check.told("ink i eyes 1;leaf abcdef ink i;guard 4 3;");
    Check.due("three hours between", x.forge(0, 0, 2, 1, 6), 4);
    Check.due("the guard in the last", x.forge(0, 0, 2, 1, 3), 0);
    Check.due("four hours never", x.forge(0, 0, 3, 1, 200), -1);
    Check.due("four hours need no bars", x.bars(0, 0, 3, 1, 200), 0);
    Check.due("one hour, the guard in it", x.forge(0, 0, 0, 1, 199), 198);
    Check.due("one hour behind it", x.forge(0, 0, 0, 1, 200), 200);
    Check.due("three hours from the midst on", x.forge(0, 3, 5, 1, 6), 4);
    Check.due("three hours from the midst on, barred", x.bars(0, 3, 5, 1, 6), 2);
    Check.due("the last place alone", x.forge(0, 5, 5, 1, 6), 6);
    Check.tell(x, "ink i eyes 1;leaf abcdef ink i;guard 1 0;");
    Check.due("always there", x.forge(0, 0, 0, 64, 200), -1);
    Check.due("always there: no bars", x.bars(0, 0, 0, 64, 200), 0);
    Check.tell(x, "ink i eyes 1;leaf abcdef ink i;guard 2 1;");
    Check.due("each second hour", x.forge(0, 0, 5, 6, 200), 200);
    Check.due("each second hour, till 199", x.forge(0, 0, 5, 6, 199), 198);
    Check.due("two hours never", x.forge(0, 0, 5, 5, 200), -1);
    x.hours(1);
    Check.due("there now", x.forge(0, 0, 5, 6, 1), -1);
    Check.due("and not in the next hour", x.forge(0, 0, 5, 6, 2), 2);
  }

  private static void comesThrough() {
    Check.of("III: HE COMES THROUGH up to a told HOUR, if he can begin in HOUR now or later, and ends (his last sign's HOUR) not "
        + "behind it.");
    WetInk x = Check.told("ink i eyes 1;leaf abcdef ink i;");
    x.hours(50);
    Check.due("begins and ends now", x.forge(0, 0, 0, 1, 50), 50);
    Check.due("one hour more", x.forge(0, 0, 1, 1, 50), -1);
    Check.due("ends in it", x.forge(0, 0, 1, 1, 51), 50);
    Check.due("six hours", x.forge(0, 0, 5, 1, 54), -1);
    Check.due("six hours, just", x.forge(0, 0, 5, 1, 55), 50);
    Check.due("six hours, later", x.forge(0, 0, 5, 1, 56), 51);
    Check.due("from the midst on", x.forge(0, 3, 5, 1, 51), -1);
    Check.due("from the midst on, just", x.forge(0, 3, 5, 1, 52), 50);
    Check.due("his last sign is the only one of its hour", x.forge(0, 0, 4, 2, 52), 50);
    Check.due("too few for it", x.forge(0, 0, 4, 2, 51), -1);
  }

  private static void theBars() {
    Check.of("III: THE BARS: the fewest HOURS, of now .. the told one, in which the guard must be there, too, so that he does not.");
    WetInk x = Check.told("ink i eyes 1;leaf abcdef ink i;guard 10 9;" + reader("r", 1, 0, 0));
    Check.due("each hour but the guard's", x.bars(0, 0, 0, 1, 200), 181);
    Check.due("each hour, now alone", x.bars(0, 0, 0, 1, 0), 1);
    Check.due("two hours: four of nine, twenty times", x.bars(0, 0, 1, 1, 199), 80);
    Check.due("five hours: one of nine, twenty times", x.bars(0, 0, 4, 1, 199), 20);
    Check.due("and hour 200, too short", x.bars(0, 0, 4, 1, 200), 20);
    Check.due("six hours: one of nine, twenty times", x.bars(0, 0, 5, 1, 199), 20);
    Check.due("three hours till 8", x.bars(0, 0, 2, 1, 8), 3);
    Check.due("three hours till 7", x.bars(0, 0, 2, 1, 7), 2);
    Check.due("three hours till 1", x.bars(0, 0, 2, 1, 1), 0);
    x.seat(0, 0);
    Check.due("place 5 is WET up to hour 5", x.bars(0, 5, 5, 1, 200), 6);
    Check.due("places 4, 5 by one: begins 0 .. 4", x.bars(0, 4, 5, 1, 200), 3);
    Check.due("places 3 .. 5 by one: begins 0 .. 3", x.bars(0, 3, 5, 1, 200), 2);
    Check.due("places 0 .. 5 by one: begins 0", x.bars(0, 0, 5, 1, 200), 1);
    WetInk y = Check.told("ink i eyes 1;leaf ab ink i;guard 3 1;");
    Check.due("two hours between: 2 and 3, 5 and 6, ..", y.bars(0, 0, 1, 1, 9), 3);
    Check.due("one by one: 0, 2, 3, 5, 6, 8, 9", y.bars(0, 0, 0, 1, 9), 7);
  }

  private static void draws() {
    Check.of("III: A DRAW of m: x (the seed) becomes (1103515245 x + 12345) mod 2 to the 31; floor(x / 64) mod m.");
    for (int readers = 1; readers <= 4; readers++) {
      for (int leaves = 1; leaves <= 8; leaves++) {
        StringBuilder book = new StringBuilder("ink i eyes 20;");
        for (int r = 0; r < readers; r++) {
          book.append(reader("r" + (char) ('a' + r), 1 + r, 0, 0));
        }
        for (int l = 0; l < leaves; l++) {
          book.append("leaf ").append(LONG, 0, 4 + l).append(" ink i;");
        }
        WetInk x = Check.told(book.toString());
        drawn(x, 1, readers, leaves);
        for (int seed : new int[] {0, 63, 64, 12345, 1 << 30, GREATEST - 1, GREATEST}) {
          x.seed(seed);
          drawn(x, seed, readers, leaves);
        }
      }
    }
  }

  /** Twelve hours of runs, each as the draws from that seed on tell it. */
  private static void drawn(WetInk x, long seed, int readers, int leaves) {
    for (int i = 0; i < 12; i++) {
      seed = (1103515245L * seed + 12345) % 2147483648L;
      int reader = (int) (seed / 64 % readers);
      seed = (1103515245L * seed + 12345) % 2147483648L;
      int leaf = (int) (seed / 64 % leaves);
      int[] at = new int[readers];
      int[] place = new int[readers];
      for (int r = 0; r < readers; r++) {
        at[r] = x.reader(r, 0);
        place[r] = x.reader(r, 1);
      }
      if (at[reader] == -1) {
        at[reader] = leaf;
      }
      x.run(1);
      for (int r = 0; r < readers; r++) {
        place[r] += at[r] == -1 ? 0 : r + 1;
        boolean through = at[r] == -1 || place[r] >= 4 + at[r];
        Check.due("LEAF of reader " + r, x.reader(r, 0), through ? -1 : at[r]);
        Check.due("place of reader " + r, x.reader(r, 1), through ? 0 : place[r]);
      }
    }
  }

  private static void runs() {
    Check.of("III: A RUN of n HOURS: in each, first a DRAW of the READERS: that one, if it is at no LEAF, comes to be AT the LEAF of "
        + "a DRAW of these (which is drawn in any case); then an HOUR goes by.");
    String book = "ink i eyes 5;leaf abcdefgh ink i;leaf ijklm ink i;leaf n ink i;" + reader("r", 1, 0, 0) + reader("s", 2, 3, 0);
    for (int seed = 0; seed < 6; seed++) {
      WetInk x = Check.told(book);
      WetInk y = Check.told(book);
      x.seed(seed);
      y.seed(seed);
      int dried = 0;
      for (int i = 0; i < 200; i++) {
        dried += y.run(1);
      }
      Check.due("200 hours at once", x.run(200), dried);
      Check.same("and one by one", Check.stateOf(x), Check.stateOf(y));
      Check.due("what dried is DRY", x.has(7), dried);
    }
  }

  private static void hire() {
    Check.of("Promise 23, hire: THE FEWEST that dry a span: how many READERS (what 0), their pay (1), how many of READER k (2 and "
        + "k). NONE when it CAN'T BE, there is none such, or for others.");
    WetInk x = Check.told("ink i eyes 2;leaf abcde ink i;leaf a ink i;" + reader("a", 1, 2, 7) + reader("b", 1, 4, 9));
    due(x, 0, 2, 2, 18, 0, 2, -1);
    due(x, 0, 0, 2, 14, 2, 0, -1);
    due(x, 3, 3, -1, -1, -1, -1, -1);
    for (int what : new int[] {-1, 4, 5, LEAST, GREATEST}) {
      Check.due("what " + what, x.hire(0, 0, 0, what), -1);
    }
    for (int what = 0; what < 4; what++) {
      for (int[] s : noSpans()) {
        Check.due("hire(" + s[0] + ", " + s[1] + ", " + s[2] + ")", x.hire(s[0], s[1], s[2], what), -1);
      }
    }
    WetInk four = Check.told("ink i eyes 2;leaf a ink i;" + reader("a", 1, 0, 7) + reader("b", 1, 0, 7) + reader("c", 1, 0, 7)
        + reader("d", 1, 0, 7));
    due(four, 0, 0, 2, 14, 0, 0, 0, 2, -1);
  }

  /** Spans that there are not, of a leaf 0 of five places and a leaf 1 of one. */
  private static int[][] noSpans() {
    return new int[][] {{0, 0, 5}, {0, 5, 5}, {0, -1, 0}, {0, 1, 0}, {0, 4, 3}, {1, 0, 1}, {1, 1, 1}, {2, 0, 0}, {-1, 0, 0},
        {0, LEAST, 0}, {0, 0, GREATEST}, {0, LEAST, LEAST}, {0, GREATEST, GREATEST}, {0, GREATEST, LEAST}, {LEAST, 0, 0},
        {GREATEST, 0, 0}};
  }

  private static void dries() {
    Check.of("Promise 24, dries: In which HOUR, READERS going on as they are AT their LEAVES, all in a span is no longer WET (HOUR, "
        + "if it is so now); NONE when never so, or there is none such.");
    WetInk x = Check.told("ink i eyes 1;leaf abcde ink i;leaf z ink i;" + reader("a", 2, 3, 0));
    x.hours(20);
    Check.due("nobody reads", x.dries(0, 0, 0), -1);
    x.seat(0, 0);
    Check.due("now that one does", x.dries(0, 0, 0), 21);
    Check.due("both of an hour", x.dries(0, 0, 1), 21);
    Check.due("skipped", x.dries(0, 2, 2), -1);
    Check.due("with one that is skipped", x.dries(0, 0, 4), -1);
    Check.due("beside it", x.dries(0, 3, 3), 22);
    Check.due("the last", x.dries(0, 3, 4), 23);
    Check.due("another leaf", x.dries(1, 0, 0), -1);
    x.wipe(0, 2, 2);
    Check.due("BLANK now", x.dries(0, 2, 2), 20);
    Check.due("with a BLANK", x.dries(0, 0, 4), 23);
    x.read(0, 3, 4, 1);
    Check.due("DRY now", x.dries(0, 3, 4), 20);
    Check.due("all but the first two", x.dries(0, 0, 4), 21);
    for (int[] s : noSpans()) {
      Check.due("dries(" + s[0] + ", " + s[1] + ", " + s[2] + ")", x.dries(s[0], s[1], s[2]), -1);
    }
    Check.due("asking does nothing", x.has(5), 20);
    Check.due("as told", x.hours(1), 2);
    Check.due("DRY since", x.sign(0, 1, 2), 21);
  }

  private static void forge() {
    Check.of("Promise 25, forge: The last HOUR in which a FORGER of a pace (1 .. 64) can begin so that HE COMES THROUGH up to an HOUR "
        + "(HOUR .. HOUR and 200); NONE when he can't, or something can't be.");
    plan(false);
  }

  private static void bars() {
    Check.of("Promise 26, bars: THE BARS; NONE when something can't be (0 when he does not come through).");
    plan(true);
    WetInk x = Check.told("ink i eyes 1;leaf abcde ink i;");
    Check.due("too short a time", x.bars(0, 0, 4, 1, 3), 0);
    Check.due("just long enough", x.bars(0, 0, 4, 1, 4), 1);
    x.read(0, 2, 2, 1);
    Check.due("a DRY one in it", x.bars(0, 0, 4, 1, 200), 0);
  }

  private static int planned(WetInk x, boolean bars, int leaf, int from, int to, int pace, int till) {
    return bars ? x.bars(leaf, from, to, pace, till) : x.forge(leaf, from, to, pace, till);
  }

  private static void plan(boolean bars) {
    WetInk x = Check.told("ink i eyes 1;leaf abcde ink i;leaf a ink i;");
    x.hours(30);
    Check.due("pace 1", planned(x, bars, 0, 0, 4, 1, 34), bars ? 1 : 30);
    Check.due("pace 64", planned(x, bars, 0, 0, 4, 64, 34), bars ? 5 : 34);
    Check.due("till HOUR", planned(x, bars, 0, 0, 4, 5, 30), bars ? 1 : 30);
    Check.due("till HOUR and 200", planned(x, bars, 0, 0, 4, 5, 230), bars ? 201 : 230);
    for (int pace : new int[] {0, -1, 65, LEAST, GREATEST}) {
      Check.due("pace " + pace, planned(x, bars, 0, 0, 4, pace, 34), -1);
    }
    for (int till : new int[] {29, 0, -1, 231, LEAST, GREATEST}) {
      Check.due("till " + till, planned(x, bars, 0, 0, 4, 5, till), -1);
    }
    for (int[] s : noSpans()) {
      Check.due("span " + s[0] + ", " + s[1] + ", " + s[2], planned(x, bars, s[0], s[1], s[2], 5, 34), -1);
    }
  }

  private static void nearTheLastHour() {
    Check.of("Promise 25, forge: up to an HOUR (HOUR .. HOUR and 200)");
    WetInk x = Check.told("ink i eyes 1;leaf abcde ink i;" + reader("a", 2, 0, 0));
    for (int i = 0; i < 10; i++) {
      x.hours(999);
    }
    x.hours(9);
    Check.due("in the last HOUR of all", x.forge(0, 0, 4, 5, 9999), 9999);
    Check.due("barred there", x.bars(0, 0, 4, 5, 9999), 1);
    Check.due("two hours do not fit", x.forge(0, 0, 4, 3, 9999), -1);
    Check.due("HOUR and 200 is told to be taken", x.forge(0, 0, 4, 5, 10199), 10199);
    Check.due("HOUR and 201 is not", x.forge(0, 0, 4, 5, 10200), -1);
  }

  private static void guard() {
    Check.of("Promise 27, guard: Whether the guard is there in an HOUR (0 .. 9999): 1, 0; NONE for others.");
    WetInk x = Check.told("guard 3 0;");
    Check.due("hour 0", x.guard(0), 1);
    Check.due("hour 1", x.guard(1), 0);
    Check.due("hour 9998", x.guard(9998), 0);
    Check.due("hour 9999", x.guard(9999), 1);
    WetInk none = new WetInk();
    for (int hour : new int[] {-1, -3, 10000, 10002, LEAST, GREATEST}) {
      Check.due("hour " + hour, x.guard(hour), -1);
      Check.due("hour " + hour + " without a book", none.guard(hour), -1);
    }
    x.hours(9);
    Check.due("whatever HOUR it is", x.guard(3), 1);
  }
}
