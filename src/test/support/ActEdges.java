/** Terms II and promises 8 to 18: each sentence that names an edge. */
final class ActEdges {
  private static final String BOOK = "ink slow eyes 3;ink fast eyes 1;leaf abcde ink slow;leaf xyz ink fast;leaf q ink slow;"
      + "reader one pace 2 skips 0 pay 5;reader two pace 3 skips 2 pay 1;";
  private static final int LEAST = Integer.MIN_VALUE;
  private static final int GREATEST = Integer.MAX_VALUE;

  private ActEdges() {
  }

  static void run() {
    places();
    eyesNeeded();
    wetAndDry();
    asTold();
    blankIsNeither();
    eyesGoOver();
    wiped();
    written();
    pressed();
    readOn();
    hoursGoBy();
    leaf();
    sign();
    reader();
    read();
    wipe();
    write();
    press();
    seat();
    hours();
    run200();
    seed();
  }

  private static void places() {
    Check.of("II: A SIGN, in a place (from 0 on) of a LEAF, is a letter or BLANK.");
    WetInk x = Check.told(BOOK);
    Check.due("place 0", x.sign(0, 0, 0), 1);
    Check.due("the last place", x.sign(0, 4, 0), 5);
    Check.due("behind it", x.sign(0, 5, 0), -1);
    Check.due("ahead of all", x.sign(0, -1, 0), -1);
    Check.due("the one place", x.sign(2, 0, 0), 17);
    Check.due("behind the one", x.sign(2, 1, 0), -1);
    x.wipe(2, 0, 0);
    Check.due("BLANK", x.sign(2, 0, 0), 0);
  }

  private static WetInk ruled(String rules) {
    return Check.told("ink i eyes 7;leaf ab ink i;" + rules);
  }

  private static void eyesNeeded() {
    Check.of("II: the SUM of the first RULE whose TEST holds, 0 .. 99 (below is 0, above 99), else those of its ink");
    Check.due("1", ruled("eyes 1 when all;").sign(0, 0, 1), 1);
    Check.due("0", ruled("eyes 0 when all;").sign(0, 0, 1), 0);
    Check.due("-1", ruled("eyes 0-1 when all;").sign(0, 0, 1), 0);
    Check.due("-1000000", ruled("eyes 0-9999*9999 when all;").sign(0, 0, 1), 0);
    Check.due("98", ruled("eyes 98 when all;").sign(0, 0, 1), 98);
    Check.due("99", ruled("eyes 99 when all;").sign(0, 0, 1), 99);
    Check.due("100", ruled("eyes 100 when all;").sign(0, 0, 1), 99);
    Check.due("1000000", ruled("eyes 9999*9999 when all;").sign(0, 0, 1), 99);
    Check.due("without a rule", ruled("").sign(0, 0, 1), 7);
    Check.due("where none holds", ruled("eyes 1 when place=1;eyes 2 when letter=2;").sign(0, 0, 1), 7);
    Check.due("where the first does not hold", ruled("eyes 1 when place=1;eyes 2 when all;").sign(0, 0, 1), 2);
    Check.due("where both hold", ruled("eyes 1 when all;eyes 2 when all;").sign(0, 0, 1), 1);
    WetInk x = ruled("eyes 100 when letter=3;eyes 0-5 when letter=4;");
    Check.due("above 99, written", x.write(0, 0, 3, 0), 99);
    Check.due("below 0, written", x.write(0, 0, 4, 0), 0);
  }

  private static void wetAndDry() {
    Check.of("II: it is WET while it needs some, else DRY, since the HOUR in which that came to be.");
    WetInk x = Check.told(BOOK);
    x.hours(5);
    x.read(0, 0, 0, 2);
    Check.due("with one eye to come", x.leaf(0, 2), 0);
    Check.due("not since any hour", x.sign(0, 0, 2), -1);
    x.hours(1);
    x.read(0, 0, 0, 1);
    Check.due("with none to come", x.leaf(0, 2), 1);
    Check.due("since now", x.sign(0, 0, 2), 6);
    x.hours(9);
    x.read(0, 0, 0, 1);
    Check.due("still since then", x.sign(0, 0, 2), 6);
    WetInk y = ruled("eyes 0 when letter>1;");
    Check.due("needs none as told: since 0", y.sign(0, 1, 2), 0);
    y.hours(4);
    y.write(0, 0, 2, 0);
    Check.due("needs none as written: since now", y.sign(0, 0, 2), 4);
  }

  private static void asTold() {
    Check.of("II: All signs are as told, written in HOUR 0.");
    WetInk x = Check.told("ink i eyes 2;leaf az ink i;eyes 0 when letter=26;");
    Check.due("letter", x.sign(0, 1, 0), 26);
    Check.due("dry since", x.sign(0, 1, 2), 0);
    x.hours(1);
    Check.due("stood in hour 0", x.stood(0, 0, 0), 1);
    Check.due("no change", x.has(10), 0);
  }

  private static void blankIsNeither() {
    Check.of("II: A BLANK is neither.");
    WetInk x = Check.told(BOOK);
    x.wipe(0, 0, 4);
    Check.due("WET", x.leaf(0, 1), 0);
    Check.due("DRY", x.leaf(0, 2), 0);
    Check.due("BLANK", x.leaf(0, 3), 5);
    Check.due("needs none", x.sign(0, 0, 1), 0);
    Check.due("since no hour", x.sign(0, 0, 2), -1);
    Check.due("no span of WET ones", x.span(0, true, 1), 0);
    Check.due("no span of DRY ones", x.span(0, false, 1), 0);
    Check.due("eyes dry nothing", x.read(0, 0, 4, 99), 0);
    Check.due("it can be wiped", x.wipe(0, 0, 4), 0);
    Check.due("it can be written on", x.write(0, 0, 1, 0), 3);
  }

  private static void eyesGoOver() {
    Check.of("II: EYES go over a span: each WET sign in it needs one fewer.");
    WetInk x = Check.told(BOOK);
    x.read(0, 1, 3, 1);
    int[] want = {3, 2, 2, 2, 3};
    for (int place = 0; place < 5; place++) {
      Check.due("place " + place, x.sign(0, place, 1), want[place]);
    }
    Check.due("the other leaf", x.leaf(2, 6), 3);
    x.read(0, 1, 1, 99);
    Check.due("none is below 0", x.sign(0, 1, 1), 0);
  }

  private static void wiped() {
    Check.of("II: WIPE a span: if no sign in it is DRY, all in it are BLANK.");
    for (int dry = 0; dry < 5; dry++) {
      WetInk x = Check.told(BOOK);
      x.read(0, dry, dry, 3);
      int[] before = Check.stateOf(x);
      Check.due("a DRY one in " + dry, x.wipe(0, 0, 4), -1);
      Check.same("nothing is wiped", Check.stateOf(x), before);
      if (dry > 0) {
        Check.due("ahead of it", x.wipe(0, 0, dry - 1), dry);
      }
      if (dry < 4) {
        Check.due("behind it", x.wipe(0, dry + 1, 4), 4 - dry);
      }
      Check.due("all but it are BLANK", x.leaf(0, 3), 4);
    }
  }

  private static void written() {
    Check.of("II: WRITE a letter with an ink in a place that is not DRY.");
    WetInk x = Check.told(BOOK);
    Check.due("on a WET one", x.write(0, 0, 26, 1), 1);
    x.read(0, 0, 0, 1);
    int[] before = Check.stateOf(x);
    Check.due("on a DRY one", x.write(0, 0, 1, 1), -1);
    Check.due("the same letter on a DRY one", x.write(0, 0, 26, 1), -1);
    Check.same("nothing is written", Check.stateOf(x), before);
    x.wipe(0, 1, 1);
    Check.due("on a BLANK", x.write(0, 1, 1, 0), 3);
    x.read(0, 1, 1, 2);
    Check.due("over one that is nearly DRY", x.write(0, 1, 1, 0), 3);
    Check.due("needs all its eyes anew", x.sign(0, 1, 1), 3);
  }

  private static void pressed() {
    Check.of("II: in the place as far from that LEAF's last place as it is from its own first one (if there is one): a letter "
        + "beside the sign, the latest counts. (Nothing else comes of it.)");
    WetInk x = Check.told(BOOK);
    int[] images = Check.imageOf(x);
    Check.due("a long one on a short one", x.press(0, 1), 3);
    ghosts(x, 1, 3, 2, 1);
    Check.due("on one of one place", x.press(0, 2), 1);
    ghosts(x, 2, 1);
    Check.due("a short one on a long one", x.press(1, 0), 3);
    ghosts(x, 0, 0, 0, 26, 25, 24);
    Check.due("one of one place on a long one", x.press(2, 0), 1);
    ghosts(x, 0, 0, 0, 26, 25, 17);
    Check.due("the same once more comes, too", x.press(2, 0), 1);
    Check.due("but is one", x.leaf(0, 4), 3);
    Check.due("no CHANGES", x.has(10), 0);
    int[] after = Check.imageOf(x);
    for (int k = 0; k + 1 < images.length; k++) {
      boolean ghost = k >= 2 && k < 29 && k % 3 == 1;
      Check.due("byte " + k + " stays", ghost ? images[k] : after[k], images[k]);
    }
    x.read(2, 0, 0, 3);
    Check.due("a DRY sign leaves none", x.press(2, 1), 0);
    x.wipe(0, 0, 4);
    Check.due("a BLANK leaves none, and wipes no GHOST away", x.press(0, 1), 0);
    ghosts(x, 1, 3, 2, 1);
    Check.due("GHOSTS stay when it is wiped", x.leaf(0, 4), 3);
    Check.due("a GHOST is not pressed", x.press(0, 2), 0);
  }

  private static void ghosts(WetInk x, int leaf, int... want) {
    for (int place = 0; place < want.length; place++) {
      Check.due("GHOST on " + leaf + " in " + place, x.sign(leaf, place, 3), want[place]);
    }
  }

  private static void readOn() {
    Check.of("II: in each HOUR, when it ends, as many places as its pace, one eye to each but each so-many-th place of the LEAF "
        + "as it skips (with skips n places n - 1, 2 n - 1, ..); behind the last place it is at no LEAF.");
    String leaf = Check.times("a", 64);
    for (int skips = 0; skips <= 9; skips++) {
      for (int pace : new int[] {1, 3, 32, 63, 64}) {
        if (skips != 1) {
          goneOver(leaf, pace, skips);
        }
      }
    }
    for (int places : new int[] {1, 2, 3, 4}) {
      WetInk x = Check.told("ink i eyes 2;leaf " + leaf.substring(0, places) + " ink i;reader r pace 2 skips 0 pay 0;");
      int hours = (places + 1) / 2;
      Check.due("through " + places + " places", x.seat(0, 0), hours);
      x.hours(hours);
      Check.due("is at no LEAF behind " + places, x.reader(0, 0), -1);
      Check.due("and at place 0", x.reader(0, 1), 0);
      x.hours(1);
      Check.due("reads no more", x.leaf(0, 6), places);
    }
  }

  private static void goneOver(String leaf, int pace, int skips) {
    WetInk x = Check.told("ink i eyes 2;leaf " + leaf + " ink i;reader r pace " + pace + " skips " + skips + " pay 0;");
    Check.due("pace " + pace, x.seat(0, 0), (64 + pace - 1) / pace);
    int done = 0;
    while (done < 64) {
      Check.due("goes on in " + done, x.reader(0, 1), done);
      Check.due("at its LEAF", x.reader(0, 0), 0);
      x.hours(1);
      done = Math.min(64, done + pace);
      for (int place = 0; place < 64; place++) {
        boolean skipped = skips > 0 && (place + 1) % skips == 0;
        String name = "pace " + pace + " skips " + skips + " up to " + done + ", place " + place;
        Check.due(name, x.sign(0, place, 1), place < done && !skipped ? 1 : 2);
      }
    }
    Check.due("at no LEAF", x.reader(0, 0), -1);
  }

  private static void hoursGoBy() {
    Check.of("II: HOURS go by: READERS by numbers, then HOUR is one more (9999 at most). What DRIES so is DRY since that next "
        + "HOUR.");
    WetInk x = Check.told(BOOK);
    for (int i = 0; i < 10; i++) {
      x.hours(999);
    }
    x.hours(8);
    x.seat(0, 1);
    int[] before = Check.stateOf(x);
    Check.due("to hour 10000", x.hours(2), -1);
    Check.due("far behind it", x.hours(999), -1);
    Check.due("to hour 10000 by a run", x.run(2), -1);
    Check.same("nothing is done", Check.stateOf(x), before);
    Check.due("to hour 9999", x.hours(1), 2);
    Check.due("DRY since", x.sign(1, 0, 2), 9999);
    lastByRun();
    Check.due("HOUR", x.has(5), 9999);
    Check.due("no hour behind it", x.hours(1), -1);
    Check.due("nor by a run", x.run(1), -1);
    Check.due("the reader stays", x.reader(0, 1), 2);
    WetInk y = Check.told("ink i eyes 1;leaf ab ink i;reader a pace 1 skips 0 pay 0;reader b pace 2 skips 0 pay 0;");
    y.seat(1, 0);
    y.seat(0, 0);
    Check.due("both over one sign", y.hours(1), 2);
    Check.due("DRY since 1", y.sign(0, 0, 2), 1);
    Check.due("DRY since 1, too", y.sign(0, 1, 2), 1);
    Check.due("the next hour dries nothing", y.hours(1), 0);
    Check.due("still since 1", y.sign(0, 1, 2), 1);
  }

  private static void lastByRun() {
    WetInk x = Check.told(BOOK);
    for (int i = 0; i < 10; i++) {
      x.hours(980);
    }
    Check.due("200 hours to 10000", x.run(200), -1);
    Check.due("199 hours to 9999", x.run(199) >= 0, true);
    Check.due("HOUR behind the run", x.has(5), 9999);
  }

  private static void leaf() {
    Check.of("Promise 8, leaf: .. NONE when there is none such, or for others.");
    WetInk x = Check.told(BOOK);
    x.read(0, 1, 1, 3);
    x.read(0, 2, 2, 1);
    x.wipe(0, 4, 4);
    x.press(2, 0);
    int[] want = {5, 3, 1, 1, 1, 3, 8};
    for (int what = 0; what < 7; what++) {
      Check.due("leaf(0, " + what + ")", x.leaf(0, what), want[what]);
      for (int none : new int[] {-1, 3, 8, LEAST, GREATEST}) {
        Check.due("leaf(" + none + ", " + what + ")", x.leaf(none, what), -1);
      }
    }
    for (int what : new int[] {-1, 7, LEAST, GREATEST}) {
      Check.due("leaf(0, " + what + ")", x.leaf(0, what), -1);
    }
    x.wipe(2, 0, 0);
    Check.due("the most eyes without a WET sign", x.leaf(2, 5), 0);
    Check.due("all eyes without a WET sign", x.leaf(2, 6), 0);
    WetInk y = Check.told("ink i eyes 1;leaf " + Check.times("a", 64) + " ink i;eyes 99 when all;");
    for (int place = 0; place < 64; place += 63) {
      WetInk one = Check.told("ink i eyes 1;leaf " + Check.times("a", 64) + " ink i;eyes 9 when place=" + place + ";");
      Check.due("the most eyes are in place " + place, one.leaf(0, 5), 9);
      Check.due("all eyes with that", one.leaf(0, 6), 72);
      one.read(0, place, place, 9);
      Check.due("DRY signs", one.leaf(0, 2), 1);
      Check.due("WET signs", one.leaf(0, 1), 63);
    }
    Check.due("the most eyes there can be", y.leaf(0, 5), 99);
    Check.due("all eyes there can be", y.leaf(0, 6), 6336);
  }

  private static void sign() {
    Check.of("Promise 9, sign: Of a place: 0 its letter 1 .. 26 (0 BLANK), 1 eyes that it needs, 2 since which HOUR it is DRY "
        + "(NONE when it is not), 3 its GHOST (0 none). NONE when there is none such, or for others.");
    WetInk x = Check.told(BOOK);
    x.hours(2);
    x.read(0, 4, 4, 3);
    x.wipe(0, 0, 0);
    x.press(2, 0);
    int[][] want = {{0, 0, -1, 0}, {2, 3, -1, 0}, {3, 3, -1, 0}, {4, 3, -1, 0}, {5, 0, 2, 17}};
    for (int place = 0; place < 5; place++) {
      for (int what = 0; what < 4; what++) {
        Check.due("sign(0, " + place + ", " + what + ")", x.sign(0, place, what), want[place][what]);
      }
    }
    for (int what : new int[] {-1, 4, LEAST, GREATEST}) {
      Check.due("sign(0, 4, " + what + ")", x.sign(0, 4, what), -1);
    }
    for (int what = 0; what < 4; what++) {
      for (int none : new int[] {-1, 5, 64, LEAST, GREATEST}) {
        Check.due("sign(0, " + none + ", " + what + ")", x.sign(0, none, what), -1);
      }
      for (int none : new int[] {-1, 3, LEAST, GREATEST}) {
        Check.due("sign(" + none + ", 0, " + what + ")", x.sign(none, 0, what), -1);
      }
    }
  }

  private static void reader() {
    Check.of("Promise 10, reader: Of a READER: 0 its LEAF (NONE at none), 1 the place where it goes on, 2 in how many HOURS it is "
        + "through (0 at none). NONE when there is none such, or for others.");
    WetInk x = Check.told(BOOK);
    Check.due("LEAF at none", x.reader(0, 0), -1);
    Check.due("HOURS at none", x.reader(0, 2), 0);
    x.seat(0, 0);
    int[][] want = {{0, 0, 3}, {0, 2, 2}, {0, 4, 1}, {-1, 0, 0}};
    for (int hour = 0; hour < 4; hour++) {
      for (int what = 0; what < 3; what++) {
        Check.due("reader(0, " + what + ") in hour " + hour, x.reader(0, what), want[hour][what]);
      }
      x.hours(1);
    }
    for (int none : new int[] {-1, 2, 4, LEAST, GREATEST}) {
      Check.due("reader(" + none + ", 2)", x.reader(none, 2), -1);
      Check.due("reader(" + none + ", 1)", x.reader(none, 1), -1);
    }
    for (int what : new int[] {-1, 3, LEAST, GREATEST}) {
      Check.due("reader(0, " + what + ")", x.reader(0, what), -1);
    }
  }

  private static void read() {
    Check.of("Promise 11, read: EYES, n (1 .. 99) of them, go over a span (both places counted): how many signs came to be DRY; "
        + "NONE when there is none such, or n can't be.");
    WetInk x = Check.told(BOOK + "eyes 99 when leaf=1;");
    int[] before = Check.stateOf(x);
    for (int n : new int[] {0, -1, 100, LEAST, GREATEST}) {
      Check.due("n " + n, x.read(0, 0, 4, n), -1);
    }
    noSpan("read", x);
    Check.same("nothing is read", Check.stateOf(x), before);
    Check.due("n 1", x.read(0, 4, 4, 1), 0);
    Check.due("n 1 is one eye", x.sign(0, 4, 1), 2);
    Check.due("98 of 99", x.read(1, 0, 2, 98), 0);
    Check.due("the last of 99", x.read(1, 0, 1, 1), 2);
    Check.due("99 of 99", x.write(1, 2, 5, 0) + 1000 * x.read(1, 2, 2, 99), 1099);
    Check.due("both places counted", x.read(0, 1, 3, 3), 3);
    Check.due("what is DRY does not come to be so", x.read(0, 1, 4, 2), 1);
    Check.due("one place alone", x.read(2, 0, 0, 3), 1);
  }

  /** All spans that there are not, of a leaf 0 of five places, of three leaves. */
  private static void noSpan(String call, WetInk x) {
    int[][] spans = {{0, 0, 5}, {0, 5, 5}, {0, -1, 0}, {0, -1, -1}, {0, 1, 0}, {0, 4, 3}, {1, 0, 3}, {2, 0, 1}, {2, 1, 1}, {3, 0, 0},
        {-1, 0, 0}, {0, LEAST, 0}, {0, 0, GREATEST}, {0, GREATEST, GREATEST}, {0, LEAST, LEAST}, {LEAST, 0, 0}, {GREATEST, 0, 0},
        {0, GREATEST, LEAST}, {0, 0, 64}};
    for (int[] s : spans) {
      String name = call + "(" + s[0] + ", " + s[1] + ", " + s[2] + ")";
      Check.due(name, call.equals("read") ? x.read(s[0], s[1], s[2], 1) : x.wipe(s[0], s[1], s[2]), -1);
    }
  }

  private static void wipe() {
    Check.of("Promise 12, wipe: WIPE a span: how many signs were no BLANKS; NONE when there is none such, or one is DRY.");
    WetInk x = Check.told(BOOK);
    int[] before = Check.stateOf(x);
    noSpan("wipe", x);
    Check.same("nothing is wiped", Check.stateOf(x), before);
    Check.due("one", x.wipe(0, 2, 2), 1);
    Check.due("all of which one is BLANK", x.wipe(0, 0, 4), 4);
    Check.due("BLANKS alone", x.wipe(0, 0, 4), 0);
    Check.due("no CHANGES of BLANKS", x.has(10), 5);
    x.read(1, 2, 2, 1);
    Check.due("up to a DRY one", x.wipe(1, 0, 2), -1);
    Check.due("up to the one ahead of it", x.wipe(1, 0, 1), 2);
  }

  private static void write() {
    Check.of("Promise 13, write: WRITE a letter (1 .. 26) with an INK: eyes that it needs; NONE when something can't be.");
    WetInk x = Check.told(BOOK);
    x.read(1, 0, 0, 1);
    int[] before = Check.stateOf(x);
    for (int none : new int[] {-1, 27, LEAST, GREATEST}) {
      Check.due("letter " + none, x.write(0, 0, none, 0), -1);
      Check.due("ink " + none, x.write(0, 0, 1, none), -1);
      Check.due("place " + none, x.write(0, none, 1, 0), -1);
      Check.due("leaf " + none, x.write(none, 0, 1, 0), -1);
    }
    Check.due("letter 0", x.write(0, 0, 0, 0), -1);
    Check.due("ink 2", x.write(0, 0, 1, 2), -1);
    Check.due("place 5", x.write(0, 5, 1, 0), -1);
    Check.due("leaf 3", x.write(3, 0, 1, 0), -1);
    Check.due("a DRY place", x.write(1, 0, 1, 0), -1);
    Check.same("nothing is written", Check.stateOf(x), before);
    Check.due("letter 1", x.write(0, 4, 1, 0), 3);
    Check.due("letter 26 with the last ink", x.write(0, 0, 26, 1), 1);
    Check.due("the first letter", x.sign(0, 4, 0), 1);
    Check.due("the last letter", x.sign(0, 0, 0), 26);
    Check.due("CHANGES", x.has(10), 2);
    Check.due("the same letter", x.write(0, 0, 26, 0), 3);
    Check.due("is no CHANGE", x.has(10), 2);
  }

  private static void press() {
    Check.of("Promise 14, press: how many GHOSTS came; NONE when there are none such, or they are one.");
    WetInk x = Check.told(BOOK);
    for (int leaf = 0; leaf < 3; leaf++) {
      Check.due("on itself", x.press(leaf, leaf), -1);
      for (int none : new int[] {-1, 3, LEAST, GREATEST}) {
        Check.due("press(" + leaf + ", " + none + ")", x.press(leaf, none), -1);
        Check.due("press(" + none + ", " + leaf + ")", x.press(none, leaf), -1);
        Check.due("press(" + none + ", " + none + ")", x.press(none, none), -1);
      }
    }
    Check.due("no GHOST came", x.has(9), 0);
    Check.due("five places on three", x.press(0, 1), 3);
    x.wipe(0, 0, 1);
    Check.due("of which two are BLANK", x.press(0, 1), 1);
    Check.due("none that fits", x.press(0, 2), 0);
  }

  private static void seat() {
    Check.of("Promise 15, seat: A READER that is at none comes to be AT a LEAF: in how many HOURS it is through; NONE when it "
        + "can't be.");
    WetInk x = Check.told(BOOK);
    for (int none : new int[] {-1, 3, LEAST, GREATEST}) {
      Check.due("reader " + none, x.seat(none, 0), -1);
      Check.due("leaf " + none, x.seat(0, none), -1);
    }
    Check.due("reader 2", x.seat(2, 0), -1);
    Check.due("it is at none", x.reader(0, 0), -1);
    Check.due("five places by twos", x.seat(0, 0), 3);
    Check.due("at another LEAF", x.seat(0, 1), -1);
    Check.due("at its own LEAF", x.seat(0, 0), -1);
    Check.due("it stays", x.reader(0, 0), 0);
    Check.due("three places by threes", x.seat(1, 1), 1);
    x.hours(1);
    Check.due("at its own LEAF still", x.seat(0, 0), -1);
    Check.due("its place stays", x.reader(0, 1), 2);
    Check.due("the other one is free again: one place", x.seat(1, 2), 1);
    x.hours(1);
    Check.due("five places by threes", x.seat(1, 0), 2);
  }

  private static void hours() {
    Check.of("Promise 16, hours: n HOURS go by (1 .. 999): how many signs came to be DRY; NONE, doing nothing, when it can't be.");
    WetInk x = Check.told(BOOK);
    x.seat(0, 1);
    int[] before = Check.stateOf(x);
    for (int n : new int[] {0, -1, 1000, LEAST, GREATEST}) {
      Check.due("hours(" + n + ")", x.hours(n), -1);
    }
    Check.same("nothing is done", Check.stateOf(x), before);
    Check.due("hours(1)", x.hours(1), 2);
    Check.due("hours(999)", x.hours(999), 1);
    Check.due("HOUR", x.has(5), 1000);
    Check.due("DRY since 2", x.sign(1, 2, 2), 2);
  }

  private static void run200() {
    Check.of("Promise 17, run: A RUN of n HOURS (1 .. 200): how many signs came to be DRY; NONE, doing nothing, when it can't be, "
        + "or without READERS or LEAVES.");
    WetInk x = Check.told(BOOK);
    WetInk y = Check.told(BOOK);
    int[] before = Check.stateOf(x);
    for (int n : new int[] {0, -1, 201, LEAST, GREATEST}) {
      Check.due("run(" + n + ")", x.run(n), -1);
    }
    Check.same("nothing is done", Check.stateOf(x), before);
    Check.due("run(1)", x.run(1), y.run(1));
    Check.same("and nothing was drawn", Check.stateOf(x), Check.stateOf(y));
    Check.due("run(200)", x.run(200) >= 0, true);
    Check.due("HOUR", x.has(5), 201);
    Check.due("all that is DRY came to be so in the runs", x.has(7) + x.has(6), 9);
    without("ink i eyes 1;leaf a ink i;", 2);
    without("reader r pace 1 skips 0 pay 0;", 1);
    without("", 0);
    WetInk z = Check.told("ink i eyes 1;leaf a ink i;reader r pace 1 skips 0 pay 0;");
    Check.due("one of each", z.run(1), 1);
    Check.due("DRY since", z.sign(0, 0, 2), 1);
  }

  /** A run that can't be draws nothing: the next one is as if it had not been asked for. */
  private static void without(String book, int statements) {
    WetInk x = new WetInk();
    Check.due("book", Check.tell(x, book), statements);
    Check.due("a run of '" + book + "'", x.run(1), -1);
    Check.due("HOUR", x.has(5), 0);
    WetInk y = Check.told(BOOK);
    Check.tell(x, BOOK);
    for (int i = 0; i < 5; i++) {
      Check.due("what dries", x.run(1), y.run(1));
    }
    Check.same("behind '" + book + "'", Check.stateOf(x), Check.stateOf(y));
  }

  private static void seed() {
    Check.of("Promise 18, seed: The seed of RUNS: true; false when it is below 0. (It is 1 at first.)");
    WetInk x = Check.told(BOOK);
    Check.due("seed(-1)", x.seed(-1), false);
    Check.due("the least seed", x.seed(LEAST), false);
    // of 1 come 1103527590, a 64th of which is 17242618, even; and 377401575, a 64th of which is 5896899, three times some
    Check.due("the first one is 1", x.run(1), 0);
    Check.due("reader 0 at leaf 0", x.reader(0, 0), 0);
    Check.due("it has read", x.reader(0, 1), 2);
    Check.due("reader 1 at none", x.reader(1, 0), -1);
    Check.due("seed(0)", x.seed(0), true);
    Check.due("seed(1)", x.seed(1), true);
    Check.due("the greatest seed", x.seed(GREATEST), true);
    Check.due("seed(-1) behind it", x.seed(-1), false);
    WetInk y = Check.told(BOOK);
    y.run(1);
    y.seed(GREATEST);
    Check.due("a refused seed changes nothing", x.run(9), y.run(9));
    Check.same("what comes of it", Check.stateOf(x), Check.stateOf(y));
    Check.tell(x, BOOK);
    Check.tell(y, BOOK);
    y.seed((int) next(GREATEST, 18));
    Check.due("a book leaves the seed where it was", x.run(20), y.run(20));
    Check.same("what comes of that", Check.stateOf(x), Check.stateOf(y));
  }

  private static long next(long seed, int draws) {
    for (int i = 0; i < draws; i++) {
      seed = (1103515245L * seed + 12345) % (1L << 31);
    }
    return seed;
  }
}
