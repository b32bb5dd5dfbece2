/** Promises 32 to 34: images, and what is taken for one. */
public final class ImagesTest {
  private static final String BOOK = "ink i eyes 3;leaf abc ink i;leaf zy ink i;reader r pace 1 skips 0 pay 0;"
      + "reader s pace 1 skips 0 pay 0;";

  public static void main(String[] args) {
    composed();
    taken();
    refused();
    empty();
    greatest();
    Check.finish("ImagesTest");
  }

  private static void is(WetInk x, int... ahead) {
    Check.due("image()", x.image(), ahead.length + 1);
    for (int k = 0; k < ahead.length; k++) {
      Check.due("octet(" + k + ")", x.octet(k), ahead[k]);
    }
    Check.due("the last octet", x.octet(ahead.length), Check.checkOf(ahead, ahead.length));
    Check.due("octet behind", x.octet(ahead.length + 1), -1);
    Check.due("octet -1", x.octet(-1), -1);
  }

  private static void composed() {
    WetInk x = Check.told(BOOK);
    Check.due("octet ahead of any image", x.octet(0), -1);
    is(x, 0, 0, 1, 3, 0, 2, 3, 0, 3, 3, 0, 26, 3, 0, 25, 3, 0, 0, 0, 0, 0);
    x.hours(300);
    x.press(0, 1);
    x.wipe(0, 1, 1);
    x.seat(1, 0);
    x.hours(1);
    Check.due("the image is as it was", x.octet(0), 0);
    is(x, 1, 45, 1, 2, 0, 0, 0, 0, 3, 3, 0, 26, 3, 2, 25, 3, 1, 0, 0, 1, 1);
    Check.tell(x, "");
    Check.due("another book leaves the latest image", x.octet(1), 45);
  }

  private static void taken() {
    WetInk x = Check.told(BOOK);
    x.seat(0, 0);
    x.read(0, 0, 0, 3);
    x.hours(1);
    x.wipe(0, 1, 1);
    x.press(0, 1);
    x.hours(19);
    x.seat(1, 1);
    int[] image = Check.imageOf(x);
    WetInk y = Check.told(BOOK);
    y.hours(70);
    y.wipe(1, 0, 1);
    y.seat(0, 1);
    Check.put(y, image, 0);
    Check.due("on()", y.on(), true);
    Check.due("the hour", y.has(5), 20);
    Check.due("no changes", y.has(10), 0);
    Check.due("what is dry is so since then", y.sign(0, 0, 2), 20);
    Check.due("there it is not", x.sign(0, 0, 2), 0);
    Check.due("a reader at none", y.reader(0, 0), -1);
    Check.due("a reader at a leaf", y.reader(1, 0), 1);
    Check.due("the tape went", y.end(1), false);
    Check.due("what stood is what is there", y.stood(1, 0, 0), 26);
    int[] again = Check.imageOf(y);
    for (int k = 0; k < image.length; k++) {
      Check.due("byte " + k, again[k], image[k]);
    }
    y.hours(1);
    Check.due("the reader goes on", y.reader(1, 1), 1);
  }

  /** The image with one byte changed, and the last one right for that. */
  private static void with(int at, int value, boolean want) {
    WetInk x = Check.told(BOOK);
    x.wipe(0, 1, 1);
    x.hours(3);
    int[] before = Check.imageOf(x);
    int[] image = before.clone();
    image[at] = value;
    image[image.length - 1] = Check.checkOf(image, image.length - 1);
    Check.put(x, image, 0);
    Check.due("on() with byte " + at + " " + value, x.on(), want);
    Check.due("the tape went", x.end(1), false);
    Check.due("changes", x.has(10), want ? 0 : 1);
    int[] after = Check.imageOf(x);
    for (int k = 0; k < after.length; k++) {
      Check.due("byte " + k + " with byte " + at + " " + value, after[k], want ? image[k] : before[k]);
    }
  }

  private static void refused() {
    with(0, 39, true);
    with(0, 40, false);
    with(0, 38, true);
    with(0, 255, false);
    with(1, 255, true);
    with(2, 26, true);
    with(2, 27, false);
    with(2, 0, false);
    with(3, 0, true);
    with(3, 99, true);
    with(3, 100, false);
    with(4, 26, true);
    with(4, 27, false);
    with(5, 1, true);
    with(6, 1, false);
    with(7, 9, true);
    with(17, 1, true);
    with(17, 2, true);
    with(17, 3, false);
    with(18, 1, false);
    WetInk x = Check.told(BOOK);
    int[] image = Check.imageOf(x);
    image[17] = 2;
    image[18] = 1;
    image[21] = Check.checkOf(image, 21);
    Check.put(x, image, 0);
    Check.due("at the last place", x.on(), true);
    image[18] = 2;
    image[21] = Check.checkOf(image, 21);
    Check.put(x, image, 0);
    Check.due("behind the last place", x.on(), false);
    image = Check.imageOf(x);
    image[21]++;
    Check.put(x, image, 0);
    Check.due("with another last byte", x.on(), false);
    image = java.util.Arrays.copyOf(Check.imageOf(x), 21);
    image[20] = Check.checkOf(image, 20);
    Check.put(x, image, 0);
    Check.due("with a byte fewer", x.on(), false);
    image = java.util.Arrays.copyOf(Check.imageOf(x), 23);
    image[22] = Check.checkOf(image, 22);
    Check.put(x, image, 0);
    Check.due("with a byte more", x.on(), false);
    Check.due("without a tape", x.on(), false);
    // hour 9999 is 39, 15
    image = Check.imageOf(x);
    image[0] = 39;
    image[1] = 15;
    image[21] = Check.checkOf(image, 21);
    Check.put(x, image, 0);
    Check.due("hour 9999", x.on(), true);
    image[1] = 16;
    image[21] = Check.checkOf(image, 21);
    Check.put(x, image, 0);
    Check.due("hour 10000", x.on(), false);
    Check.due("hour 9999 still", x.has(5), 9999);
  }

  private static void empty() {
    WetInk x = new WetInk();
    is(x, 0, 0);
    Check.put(x, new int[] {4, 1, Check.checkOf(new int[] {4, 1}, 2)}, 0);
    Check.due("on() of no leaves", x.on(), true);
    Check.due("the hour", x.has(5), 1025);
  }

  private static void greatest() {
    String book = "ink i eyes 20;";
    for (int l = 0; l < 8; l++) {
      book += "leaf " + Check.times("" + (char) ('a' + l), 64) + " ink i;";
    }
    for (int r = 0; r < 4; r++) {
      book += "reader r" + (char) ('a' + r) + " pace 1 skips 0 pay 0;";
    }
    WetInk x = Check.told(book);
    x.seat(3, 7);
    x.hours(63);
    Check.due("the greatest image", x.image(), 1547);
    Check.due("its last place", x.octet(1545), 63);
    int[] image = Check.imageOf(x);
    x.hours(200);
    Check.put(x, image, 0);
    Check.due("on()", x.on(), true);
    Check.due("the last reader", x.reader(3, 1), 63);
    Check.due("is through in an hour", x.reader(3, 2), 1);
    Check.due("hours(1)", x.hours(1), 0);
    Check.due("it read the last place", x.sign(7, 63, 1), 19);
  }
}
