import java.util.Arrays;

/** What Terms III say of IMAGES, and promises 32 to 34: each sentence that names an edge. */
final class ImageEdges {
  private static final String BOOK = "ink i eyes 3;leaf abc ink i;leaf zy ink i;reader r pace 1 skips 0 pay 0;"
      + "reader s pace 1 skips 0 pay 0;";
  private static final int SEATS = 17;
  private static final int LAST = 21;

  private ImageEdges() {
  }

  static void run() {
    parts();
    lastByte();
    asMany();
    hours();
    letters();
    eyes();
    readers();
    image();
    octet();
    on();
    dryAndChanges();
    allStays();
  }

  private static void is(WetInk x, int... ahead) {
    Check.due("image()", x.image(), ahead.length + 1);
    for (int k = 0; k < ahead.length; k++) {
      Check.due("octet(" + k + ")", x.octet(k), ahead[k]);
    }
    Check.due("the last byte", x.octet(ahead.length), Check.checkOf(ahead, ahead.length));
  }

  private static void parts() {
    Check.of("III: AN IMAGE: HOUR (two bytes, the higher first); for each LEAF and place: the letter (0 BLANK), how many eyes it "
        + "needs, the GHOST (0 none); for each READER the LEAF and 1 (0 at none) and the place where it goes on");
    WetInk x = Check.told(BOOK);
    is(x, 0, 0, 1, 3, 0, 2, 3, 0, 3, 3, 0, 26, 3, 0, 25, 3, 0, 0, 0, 0, 0);
    x.hours(255);
    is(x, 0, 255, 1, 3, 0, 2, 3, 0, 3, 3, 0, 26, 3, 0, 25, 3, 0, 0, 0, 0, 0);
    x.wipe(0, 2, 2);
    x.press(1, 0);
    x.read(1, 0, 0, 3);
    x.seat(1, 0);
    x.hours(1);
    x.seat(0, 1);
    is(x, 1, 0, 1, 2, 0, 2, 3, 25, 0, 0, 26, 26, 0, 0, 25, 3, 0, 2, 0, 1, 1);
    x.hours(2);
    is(x, 1, 2, 1, 2, 0, 2, 2, 25, 0, 0, 26, 26, 0, 0, 25, 2, 0, 0, 0, 0, 0);
    for (int i = 0; i < 9; i++) {
      x.hours(999);
    }
    x.hours(750);
    Check.due("HOUR", x.has(5), 9999);
    x.image();
    Check.due("9999: the higher byte", x.octet(0), 39);
    Check.due("9999: the lower byte", x.octet(1), 15);
  }

  private static void lastByte() {
    Check.of("III: last a byte: all ahead from 57 on, c = (3 c + it) mod 239.");
    WetInk x = new WetInk();
    // (3 * 57 + 0) mod 239 is 171, (3 * 171 + 0) mod 239 is 35
    Check.due("image()", x.image(), 3);
    Check.due("of hour 0", x.octet(2), 35);
    x.hours(203);
    x.image();
    Check.due("35 and 203 is 238", x.octet(2), 238);
    x.hours(1);
    x.image();
    Check.due("35 and 204 is 239, so 0", x.octet(2), 0);
    for (int last = 0; last < 256; last++) {
      Check.put(x, new int[] {0, 204, last}, 0);
      Check.due("taken with " + last, x.on(), last == 0);
      Check.put(x, new int[] {0, 203, last}, 0);
      Check.due("taken with " + last, x.on(), last == 238);
    }
  }

  /** The image of the book with some bytes changed, and the last one right for that. */
  private static int[] with(int... changes) {
    int[] image = {0, 9, 1, 3, 0, 2, 3, 0, 3, 3, 0, 26, 3, 0, 25, 3, 0, 0, 0, 0, 0, 0};
    for (int i = 0; i < changes.length; i += 2) {
      image[changes[i]] = changes[i + 1];
    }
    return closed(image);
  }

  private static int[] closed(int[] image) {
    image[image.length - 1] = Check.checkOf(image, image.length - 1);
    return image;
  }

  private static void taken(String name, int[] image, boolean want) {
    WetInk x = Check.told(BOOK);
    x.wipe(0, 0, 1);
    x.seat(0, 1);
    x.hours(1);
    int[] before = Check.stateOf(x);
    Check.put(x, image, 0);
    Check.due(name + ": on()", x.on(), want);
    Check.due(name + ": the tape goes", x.end(1), false);
    if (want) {
      Check.same(name, Check.imageOf(x), image);
      Check.due(name + ": no CHANGES", x.has(10), 0);
    } else {
      Check.same(name + ": all stays", Check.stateOf(x), before);
    }
  }

  private static void asMany() {
    Check.of("III: It is taken, if it is such, with as many LEAVES, places, READERS");
    taken("as it is", with(), true);
    taken("a byte more", closed(Arrays.copyOf(with(), 23)), false);
    taken("a byte fewer", closed(Arrays.copyOf(with(), 21)), false);
    taken("a reader more", closed(Arrays.copyOf(with(), 24)), false);
    taken("a reader fewer", closed(Arrays.copyOf(with(), 20)), false);
    taken("a place more", closed(Arrays.copyOf(with(), 25)), false);
    taken("a place fewer", closed(Arrays.copyOf(with(), 19)), false);
    taken("the last byte alone", new int[] {57}, false);
    taken("nothing", new int[0], false);
    taken("no leaves", closed(new int[] {0, 9, 0}), false);
    int[] open = with();
    open[LAST] ^= 1;
    taken("another last byte", open, false);
    WetInk none = new WetInk();
    Check.put(none, closed(new int[] {0, 9, 0}), 0);
    Check.due("without a book", none.on(), true);
    Check.due("its HOUR", none.has(5), 9);
    Check.put(none, with(), 0);
    Check.due("of leaves that are not there", none.on(), false);
  }

  private static void hours() {
    Check.of("III: HOUR (9999 at most)");
    taken("hour 0", with(0, 0, 1, 0), true);
    taken("hour 9998", with(0, 39, 1, 14), true);
    taken("hour 9999", with(0, 39, 1, 15), true);
    taken("hour 10000", with(0, 39, 1, 16), false);
    taken("hour 10240", with(0, 40, 1, 0), false);
    taken("hour 65535", with(0, 255, 1, 255), false);
  }

  private static void letters() {
    Check.of("III: letters 0 .. 26");
    for (int at : new int[] {2, 5, 8, 11, 14}) {
      taken("letter 1 in byte " + at, with(at, 1), true);
      taken("letter 26 in byte " + at, with(at, 26), true);
      taken("letter 27 in byte " + at, with(at, 27), false);
      taken("letter 255 in byte " + at, with(at, 255), false);
      taken("letter 0 in byte " + at, with(at, 0, at + 1, 0), true);
      taken("GHOST 0 in byte " + (at + 2), with(at + 2, 0), true);
      taken("GHOST 26 in byte " + (at + 2), with(at + 2, 26), true);
      taken("GHOST 27 in byte " + (at + 2), with(at + 2, 27), false);
      taken("GHOST 255 in byte " + (at + 2), with(at + 2, 255), false);
      taken("GHOST of a BLANK in byte " + (at + 2), with(at, 0, at + 1, 0, at + 2, 26), true);
    }
  }

  private static void eyes() {
    Check.of("III: eyes 0 .. 99 (0 of a BLANK)");
    for (int at : new int[] {3, 6, 9, 12, 15}) {
      taken("eyes 0 in byte " + at, with(at, 0), true);
      taken("eyes 99 in byte " + at, with(at, 99), true);
      taken("eyes 100 in byte " + at, with(at, 100), false);
      taken("eyes 255 in byte " + at, with(at, 255), false);
      taken("eyes 1 of a BLANK in byte " + at, with(at - 1, 0, at, 1), false);
      taken("eyes 99 of a BLANK in byte " + at, with(at - 1, 0, at, 99), false);
    }
  }

  private static void readers() {
    Check.of("III: places below the LEAF's length (0 at none)");
    for (int at : new int[] {SEATS, SEATS + 2}) {
      taken("at none, place 1", with(at, 0, at + 1, 1), false);
      taken("at none, place 255", with(at, 0, at + 1, 255), false);
      taken("at leaf 0, place 0", with(at, 1, at + 1, 0), true);
      taken("at leaf 0, place 2", with(at, 1, at + 1, 2), true);
      taken("at leaf 0, place 3", with(at, 1, at + 1, 3), false);
      taken("at leaf 1, place 1", with(at, 2, at + 1, 1), true);
      taken("at leaf 1, place 2", with(at, 2, at + 1, 2), false);
      taken("at leaf 1, place 255", with(at, 2, at + 1, 255), false);
      taken("at a leaf that is not there", with(at, 3, at + 1, 0), false);
      taken("at leaf 254", with(at, 255, at + 1, 0), false);
    }
    taken("both at one leaf", with(SEATS, 1, SEATS + 1, 2, SEATS + 2, 1, SEATS + 3, 2), true);
  }

  private static void image() {
    Check.of("Promise 32, image: AN IMAGE is written: how many bytes.");
    Check.due("of nothing", new WetInk().image(), 3);
    Check.due("of one place", Check.told("ink i eyes 1;leaf a ink i;").image(), 6);
    Check.due("of one reader", Check.told("reader r pace 1 skips 0 pay 0;").image(), 5);
    StringBuilder book = new StringBuilder("ink i eyes 1;" + Check.times("leaf " + Check.times("z", 64) + " ink i;", 8));
    for (char c = 'a'; c < 'e'; c++) {
      book.append("reader r").append(c).append(" pace 1 skips 0 pay 0;");
    }
    WetInk x = Check.told(book.toString() + "eyes 99 when all;");
    for (int r = 0; r < 4; r++) {
      x.seat(r, 7);
    }
    x.hours(63);
    Check.due("the greatest", x.image(), 1547);
    int[] image = Check.imageOf(x);
    Check.due("its last sign's eyes", image[2 + 3 * 511 + 1], 99);
    Check.due("its last seat", image[1544], 8);
    Check.due("its last place", image[1545], 63);
    x.hours(5);
    Check.put(x, image, 0);
    Check.due("the greatest is taken", x.on(), true);
    Check.same("as it is", Check.imageOf(x), image);
  }

  private static void octet() {
    Check.of("Promise 33, octet: Byte k of the latest image(); NONE when there is none such.");
    WetInk x = Check.told(BOOK);
    Check.due("ahead of any", x.octet(0), -1);
    Check.due("image()", x.image(), 22);
    int last = x.octet(LAST);
    Check.due("the last byte", last >= 0, true);
    for (int k : new int[] {-1, 22, 1600, Integer.MIN_VALUE, Integer.MAX_VALUE}) {
      Check.due("octet(" + k + ")", x.octet(k), -1);
    }
    x.wipe(0, 0, 2);
    x.hours(1);
    Check.due("it stays as it was written", x.octet(2), 1);
    Check.due("its HOUR, too", x.octet(1), 0);
    Check.tell(x, "");
    Check.due("a book leaves it", x.octet(LAST), last);
    x.feed(1, 2, 3, 4, 5);
    Check.due("so does the tape", x.octet(3), 3);
    x.on();
    Check.due("so does on()", x.octet(LAST), last);
    Check.due("a smaller one", x.image(), 3);
    Check.due("its last byte", x.octet(2), 35);
    Check.due("of the greater one nothing", x.octet(3), -1);
  }

  private static void on() {
    Check.of("Promise 34, on: The tape (it goes) is AN IMAGE: true, all is as it tells");
    WetInk x = Check.told(BOOK);
    Check.due("no tape", x.on(), false);
    x.hours(44);
    Check.put(x, with(0, 1, 1, 2, 4, 7, SEATS + 2, 2, SEATS + 3, 1), 0);
    Check.due("on()", x.on(), true);
    Check.due("the tape goes", x.feed(0, 0, 0, 0, 0), 20);
    Check.due("HOUR", x.has(5), 258);
    Check.due("a GHOST", x.sign(0, 0, 3), 7);
    Check.due("GHOSTS", x.has(9), 1);
    Check.due("reader 1's LEAF", x.reader(1, 0), 1);
    Check.due("reader 1's place", x.reader(1, 1), 1);
    Check.due("reader 1 is through in", x.reader(1, 2), 1);
    Check.due("reader 0 is at none", x.reader(0, 0), -1);
    Check.due("the fault of the latest book", x.fault(0), 0);
    Check.due("the hour goes on", x.hours(1), 0);
    Check.due("read", x.sign(1, 1, 1), 2);
    Check.due("through", x.reader(1, 0), -1);
    WetInk a = Check.told(BOOK);
    WetInk b = Check.told(BOOK);
    a.seed(5);
    b.seed(5);
    Check.put(a, with(), 0);
    a.on();
    Check.put(b, with(), 0);
    b.on();
    b.seed(5);
    Check.due("the seed stays", a.run(9), b.run(9));
    Check.same("what comes of it", Check.stateOf(a), Check.stateOf(b));
  }

  private static void dryAndChanges() {
    Check.of("Promise 34, on: (what is DRY, is so since its HOUR; no CHANGES)");
    WetInk x = Check.told(BOOK);
    x.read(0, 0, 0, 3);
    x.hours(3);
    x.wipe(0, 1, 1);
    Check.due("DRY since", x.sign(0, 0, 2), 0);
    int[] image = Check.imageOf(x);
    x.hours(4);
    Check.put(x, image, 0);
    Check.due("on()", x.on(), true);
    Check.due("DRY since its HOUR", x.sign(0, 0, 2), 3);
    Check.due("a BLANK is not", x.sign(0, 1, 2), -1);
    Check.due("a WET one is not", x.sign(0, 2, 2), -1);
    Check.due("no CHANGES", x.has(10), 0);
    Check.due("none to be asked for", x.change(0, 0), -1);
    Check.due("what stood is what is there", x.stood(0, 1, 0), 0);
    Check.due("nothing is altered", x.altered(0, 0), 0);
    Check.due("what stood in an HOUR behind it can't be", x.stood(0, 1, 4), -1);
    x.hours(1);
    x.write(0, 1, 9, 0);
    Check.due("one CHANGE", x.has(10), 1);
    Check.due("its HOUR", x.change(0, 0), 4);
  }

  private static void allStays() {
    Check.of("Promise 34, on: false when it is none (all stays).");
    WetInk x = Check.told(BOOK + "word ab;guard 5 2;");
    x.read(0, 0, 0, 3);
    x.hours(2);
    x.wipe(0, 1, 1);
    x.press(1, 0);
    x.seat(0, 1);
    x.hours(1);
    int[] before = Check.stateOf(x);
    int[] image = Check.imageOf(x);
    for (int k = 0; k < image.length; k++) {
      int[] other = image.clone();
      other[k] = (other[k] + 1) % 256;
      Check.put(x, other, 0);
      Check.due("with byte " + k + " wrong", x.on(), false);
      Check.due("the tape goes", x.end(1), false);
      Check.same("with byte " + k + " wrong", Check.stateOf(x), before);
    }
  }
}
