/** What Terms II say of CHANGES, and promises 19 to 22: each sentence that names an edge. */
final class PastEdges {
  private static final int LEAST = Integer.MIN_VALUE;
  private static final int GREATEST = Integer.MAX_VALUE;

  private PastEdges() {
  }

  static void run() {
    changes();
    keptAlone();
    keptByOneCall();
    whatStood();
    stood();
    change();
    altered();
    span();
  }

  private static void changes() {
    Check.of("II: CHANGES: each sign that comes to be another letter, or BLANK, or a letter: HOUR, LEAF, place, what it was");
    WetInk x = Check.told("ink i eyes 2;leaf ab ink i;leaf yz ink i;reader r pace 1 skips 0 pay 0;");
    x.read(0, 0, 0, 1);
    x.press(0, 1);
    x.seat(0, 0);
    x.hours(3);
    Check.due("eyes and GHOSTS are none", x.has(10), 0);
    x.write(1, 1, 26, 0);
    Check.due("the same letter is none", x.has(10), 0);
    x.write(1, 1, 1, 0);
    x.wipe(1, 0, 1);
    x.wipe(1, 0, 1);
    x.write(1, 0, 25, 0);
    Check.due("CHANGES", x.has(10), 4);
    row(x, 0, 3, 1, 1, 26);
    row(x, 1, 3, 1, 0, 25);
    row(x, 2, 3, 1, 1, 1);
    row(x, 3, 3, 1, 0, 0);
  }

  private static void row(WetInk x, int k, int... want) {
    for (int what = 0; what < 4; what++) {
      Check.due("change(" + k + ", " + what + ")", x.change(k, what), want[what]);
    }
  }

  private static void keptAlone() {
    Check.of("II: the last 400 are kept.");
    WetInk x = Check.told("ink i eyes 9;leaf a ink i;leaf b ink i;");
    x.hours(1);
    x.write(1, 0, 3, 0);
    for (int n = 2; n <= 399; n++) {
      x.write(0, 0, 1 + n % 26, 0);
    }
    Check.due("399", x.has(10), 399);
    x.write(0, 0, 1 + 400 % 26, 0);
    Check.due("400", x.has(10), 400);
    row(x, 0, 1, 1, 0, 2);
    Check.due("what stood ahead of the oldest", x.stood(1, 0, 0), 2);
    x.write(0, 0, 1 + 401 % 26, 0);
    Check.due("400 still", x.has(10), 400);
    row(x, 0, 1, 0, 0, 1);
    row(x, 399, 1, 0, 0, 1 + 400 % 26);
    Check.due("the 401st there is not", x.change(400, 0), -1);
    Check.due("what stood there is what is there now", x.stood(1, 0, 0), 3);
    Check.due("so it is not altered", x.altered(1, 0), 0);
    for (int n = 402; n <= 1300; n++) {
      x.write(0, 0, 1 + n % 26, 0);
      Check.due("400 for ever", x.has(10), 400);
      Check.due("the newest of " + n, x.change(399, 3), 1 + (n - 1) % 26);
      Check.due("the oldest of " + n, x.change(0, 3), 1 + (n - 400) % 26);
    }
    Check.tell(x, "ink i eyes 9;leaf a ink i;");
    x.write(0, 0, 9, 0);
    Check.due("one, behind another book", x.has(10), 1);
    row(x, 0, 0, 0, 0, 1);
  }

  private static void keptByOneCall() {
    Check.of("II: the last 400 are kept.");
    WetInk x = Check.told("ink i eyes 9;" + Check.times("leaf " + Check.times("a", 64) + " ink i;", 8));
    for (int leaf = 0; leaf < 7; leaf++) {
      x.wipe(leaf, 0, 63);
      Check.due("behind leaf " + leaf, x.has(10), Math.min(400, 64 * (leaf + 1)));
    }
    row(x, 0, 0, 0, 48, 1);
    row(x, 15, 0, 0, 63, 1);
    row(x, 16, 0, 1, 0, 1);
    row(x, 399, 0, 6, 63, 1);
  }

  private static void whatStood() {
    Check.of("II: WHAT STOOD in a place in an HOUR: what was there ahead of the first CHANGE of it that is kept and is of a later "
        + "HOUR; what is there now, if there is none.");
    WetInk x = Check.told("ink i eyes 9;leaf ab ink i;leaf ab ink i;");
    x.write(0, 0, 11, 0);
    Check.due("a CHANGE of that HOUR is not of a later one", x.stood(0, 0, 0), 11);
    x.hours(1);
    x.write(0, 0, 12, 0);
    x.write(0, 0, 13, 0);
    Check.due("ahead of the first of hour 1", x.stood(0, 0, 0), 11);
    Check.due("what is there now", x.stood(0, 0, 1), 13);
    x.hours(3);
    x.wipe(0, 0, 0);
    int[] want = {11, 13, 13, 13, 0};
    for (int hour = 0; hour <= 4; hour++) {
      Check.due("hour " + hour, x.stood(0, 0, hour), want[hour]);
      Check.due("another place in hour " + hour, x.stood(0, 1, hour), 2);
      Check.due("another leaf in hour " + hour, x.stood(1, 0, hour), 1);
    }
  }

  private static void stood() {
    Check.of("Promise 19, stood: WHAT STOOD in a place in an HOUR (0 .. HOUR): 0 .. 26; NONE when something can't be.");
    WetInk x = Check.told("ink i eyes 9;leaf az ink i;leaf q ink i;");
    x.hours(5);
    x.wipe(0, 0, 0);
    Check.due("hour 0", x.stood(0, 0, 0), 1);
    Check.due("HOUR, BLANK", x.stood(0, 0, 5), 0);
    Check.due("the last letter", x.stood(0, 1, 5), 26);
    for (int hour : new int[] {-1, 6, LEAST, GREATEST}) {
      Check.due("hour " + hour, x.stood(0, 0, hour), -1);
    }
    for (int place : new int[] {-1, 2, 64, LEAST, GREATEST}) {
      Check.due("place " + place, x.stood(0, place, 0), -1);
    }
    Check.due("a place of another leaf", x.stood(1, 1, 0), -1);
    for (int leaf : new int[] {-1, 2, LEAST, GREATEST}) {
      Check.due("leaf " + leaf, x.stood(leaf, 0, 0), -1);
    }
  }

  private static void change() {
    Check.of("Promise 20, change: Of the k-th CHANGE that is kept, from the oldest on: 0 HOUR, 1 LEAF, 2 place, 3 what it was. "
        + "NONE when there is none such, or for others.");
    WetInk x = Check.told("ink i eyes 9;leaf az ink i;leaf qrs ink i;");
    Check.due("without any", x.change(0, 0), -1);
    x.hours(7);
    x.wipe(1, 2, 2);
    x.hours(1);
    x.wipe(0, 0, 0);
    row(x, 0, 7, 1, 2, 19);
    row(x, 1, 8, 0, 0, 1);
    for (int k : new int[] {-1, 2, 400, LEAST, GREATEST}) {
      for (int what = 0; what < 4; what++) {
        Check.due("change(" + k + ", " + what + ")", x.change(k, what), -1);
      }
    }
    for (int what : new int[] {-1, 4, LEAST, GREATEST}) {
      Check.due("change(0, " + what + ")", x.change(0, what), -1);
    }
  }

  private static void altered() {
    Check.of("Promise 21, altered: In how many places of a LEAF something else stood in an HOUR (0 .. HOUR) than now; NONE when "
        + "something can't be.");
    WetInk x = Check.told("ink i eyes 9;leaf abc ink i;leaf abc ink i;");
    Check.due("in hour 0", x.altered(0, 0), 0);
    x.wipe(0, 0, 2);
    Check.due("CHANGES of that hour", x.altered(0, 0), 0);
    x.hours(1);
    x.write(0, 0, 1, 0);
    x.write(0, 1, 2, 0);
    x.hours(1);
    x.wipe(0, 0, 0);
    int[] want = {1, 1, 0};
    for (int hour = 0; hour <= 2; hour++) {
      Check.due("altered(0, " + hour + ")", x.altered(0, hour), want[hour]);
      Check.due("altered(1, " + hour + ")", x.altered(1, hour), 0);
    }
    for (int hour : new int[] {-1, 3, LEAST, GREATEST}) {
      Check.due("hour " + hour, x.altered(0, hour), -1);
    }
    for (int leaf : new int[] {-1, 2, LEAST, GREATEST}) {
      Check.due("leaf " + leaf, x.altered(leaf, 0), -1);
    }
    WetInk y = Check.told("ink i eyes 9;leaf " + Check.times("a", 64) + " ink i;");
    y.hours(1);
    y.wipe(0, 0, 63);
    Check.due("all places", y.altered(0, 0), 64);
    y.write(0, 63, 1, 0);
    Check.due("all but the last, which is as it was", y.altered(0, 0), 63);
  }

  private static void span() {
    Check.of("Promise 22, span: The longest span of WET signs (or, wet false, of DRY ones) of a LEAF: its first place (what 0; the "
        + "first of like ones), how long (1; 0 without). NONE without, or for others.");
    WetInk x = Check.told("ink i eyes 1;leaf abcdefg ink i;leaf z ink i;");
    longest(x, 0, true, 0, 7);
    longest(x, 0, false, -1, 0);
    longest(x, 1, true, 0, 1);
    x.read(0, 3, 3, 1);
    longest(x, 0, true, 0, 3);
    longest(x, 0, false, 3, 1);
    x.wipe(0, 0, 0);
    longest(x, 0, true, 4, 3);
    x.read(0, 1, 1, 1);
    longest(x, 0, false, 1, 1);
    x.read(0, 5, 6, 1);
    longest(x, 0, false, 5, 2);
    longest(x, 0, true, 2, 1);
    x.read(0, 2, 4, 1);
    longest(x, 0, false, 1, 6);
    longest(x, 0, true, -1, 0);
    x.wipe(1, 0, 0);
    longest(x, 1, true, -1, 0);
    longest(x, 1, false, -1, 0);
    for (int none : new int[] {-1, 2, LEAST, GREATEST}) {
      Check.due("leaf " + none, x.span(none, true, 1), -1);
      Check.due("leaf " + none, x.span(none, false, 1), -1);
      Check.due("what " + none, x.span(0, true, none), -1);
      Check.due("what " + none, x.span(0, false, none), -1);
    }
    WetInk y = Check.told("ink i eyes 1;leaf " + Check.times("a", 64) + " ink i;");
    longest(y, 0, true, 0, 64);
    y.read(0, 0, 63, 1);
    longest(y, 0, false, 0, 64);
  }

  private static void longest(WetInk x, int leaf, boolean wet, int first, int length) {
    Check.due("span(" + leaf + ", " + wet + ", 0)", x.span(leaf, wet, 0), first);
    Check.due("span(" + leaf + ", " + wet + ", 1)", x.span(leaf, wet, 1), length);
  }
}
