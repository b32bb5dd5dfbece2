/** Promises 8 to 18: leaves, signs and readers, and the acts that change them. */
public final class SignsTest {
  private static final String BOOK = "ink slow eyes 3;ink fast eyes 1;leaf abcde ink slow;leaf xyz ink fast;leaf q ink slow;"
      + "reader one pace 2 skips 0 pay 5;reader two pace 3 skips 2 pay 1;eyes 2 when letter=3;";

  public static void main(String[] args) {
    leaves();
    rules();
    reading();
    wiping();
    writing();
    pressing();
    sitting();
    hoursGoBy();
    lastHour();
    runs();
    Check.finish("SignsTest");
  }

  private static void leaves() {
    WetInk x = Check.told(BOOK);
    int[] first = {5, 5, 0, 0, 0, 3, 14};
    int[] second = {3, 3, 0, 0, 0, 1, 3};
    for (int what = 0; what < 7; what++) {
      Check.due("leaf(0, " + what + ")", x.leaf(0, what), first[what]);
      Check.due("leaf(1, " + what + ")", x.leaf(1, what), second[what]);
      Check.due("leaf(3, " + what + ")", x.leaf(3, what), -1);
      Check.due("leaf(-1, " + what + ")", x.leaf(-1, what), -1);
    }
    Check.due("leaf(0, 7)", x.leaf(0, 7), -1);
    Check.due("leaf(0, -1)", x.leaf(0, -1), -1);
    Check.due("sign(0, 2, 0)", x.sign(0, 2, 0), 3);
    Check.due("sign(0, 2, 1)", x.sign(0, 2, 1), 2);
    Check.due("sign(0, 2, 2)", x.sign(0, 2, 2), -1);
    Check.due("sign(0, 2, 3)", x.sign(0, 2, 3), 0);
    Check.due("sign(0, 2, 4)", x.sign(0, 2, 4), -1);
    Check.due("sign(0, 2, -1)", x.sign(0, 2, -1), -1);
    Check.due("sign(0, 5, 0)", x.sign(0, 5, 0), -1);
    Check.due("sign(0, -1, 0)", x.sign(0, -1, 0), -1);
    Check.due("sign(3, 0, 0)", x.sign(3, 0, 0), -1);
    Check.due("sign(-1, 0, 0)", x.sign(-1, 0, 0), -1);
    Check.due("sign(2, 0, 0)", x.sign(2, 0, 0), 17);
  }

  private static void rules() {
    eyes("7", "all", 7);
    eyes("99", "all", 99);
    eyes("100", "all", 99);
    eyes("0-1", "all", 0);
    eyes("0", "all", 0);
    eyes("place", "all", 3);
    eyes("leaf", "all", 1);
    eyes("letter", "all", 26);
    eyes("needs", "all", 5);
    eyes("9-4-3", "all", 2);
    eyes("64/4/2", "all", 8);
    eyes("7/2*2", "all", 6);
    eyes("2+3*4", "all", 14);
    eyes("(2+3)*4", "all", 20);
    eyes("10+(0-7)/2", "all", 6);
    eyes("10+7/(0-2)", "all", 6);
    eyes("10+(0-7)/(0-2)", "all", 13);
    eyes("10+7/0", "all", 10);
    eyes("10+0/0", "all", 10);
    eyes("min(8,3)+max(8,3)*2", "all", 19);
    eyes("9999*9999-999*1000-990", "all", 10);
    eyes("9999*101-9899*101+0", "all", 99);
    eyes("(0-9999)*9999+1000*1000+7", "all", 7);
    eyes("9999*100+9999-9999*100-90", "all", 10);
    eyes("7", "not all", 5);
    eyes("7", "place=3", 7);
    eyes("7", "place<3", 5);
    eyes("7", "place>3", 5);
    eyes("7", "place<4", 7);
    eyes("7", "place>2", 7);
    eyes("7", "leaf=1 and letter=26 and needs=5", 7);
    eyes("7", "all or not all and not all", 7);
    eyes("7", "[all or not all]and not all", 5);
    eyes("7", "not all and all or all", 7);
    eyes("7", "not[all and not all]", 7);
    eyes("7", "not not all", 7);
    eyes("7", "not place=3 or leaf=1", 7);
    eyes("7", "not[place=3 or leaf=1]", 5);
    WetInk x = Check.told("ink a eyes 5;leaf ab ink a;eyes 1 when letter=1;eyes 2 when place<2;eyes 3 when all;");
    Check.due("the first rule that holds", x.sign(0, 0, 1), 1);
    Check.due("the second one, where the first does not", x.sign(0, 1, 1), 2);
  }

  private static void eyes(String sum, String test, int want) {
    WetInk x = Check.told("ink a eyes 5;leaf b ink a;leaf bcdz ink a;eyes " + sum + " when " + test + ";");
    Check.due("eyes " + sum + " when " + test, x.sign(1, 3, 1), want);
    Check.due("dry so: eyes " + sum + " when " + test, x.sign(1, 3, 2), want == 0 ? 0 : -1);
  }

  private static void reading() {
    WetInk x = Check.told(BOOK);
    Check.due("read of n 0", x.read(0, 0, 4, 0), -1);
    Check.due("read of n 100", x.read(0, 0, 4, 100), -1);
    Check.due("read behind the leaf", x.read(0, 0, 5, 1), -1);
    Check.due("read from -1", x.read(0, -1, 3, 1), -1);
    Check.due("read backwards", x.read(0, 3, 2, 1), -1);
    Check.due("read of no leaf", x.read(3, 0, 0, 1), -1);
    Check.due("nothing is read", x.leaf(0, 6), 14);
    x.hours(6);
    Check.due("read(0, 1, 2, 1)", x.read(0, 1, 2, 1), 0);
    Check.due("one fewer", x.sign(0, 1, 1), 2);
    Check.due("one fewer, too", x.sign(0, 2, 1), 1);
    Check.due("not this one", x.sign(0, 3, 1), 3);
    Check.due("read(0, 2, 2, 1)", x.read(0, 2, 2, 1), 1);
    Check.due("dry since hour 6", x.sign(0, 2, 2), 6);
    x.hours(1);
    Check.due("read(0, 0, 4, 99)", x.read(0, 0, 4, 99), 4);
    Check.due("no eyes any more", x.leaf(0, 6), 0);
    Check.due("dry since hour 7", x.sign(0, 0, 2), 7);
    Check.due("still since hour 6", x.sign(0, 2, 2), 6);
    Check.due("read of dry ones", x.read(0, 0, 4, 1), 0);
    Check.due("no changes by reading", x.has(10), 0);
  }

  private static void wiping() {
    WetInk x = Check.told(BOOK);
    x.read(0, 2, 2, 2);
    x.hours(3);
    Check.due("wipe with a dry one", x.wipe(0, 1, 3), -1);
    Check.due("nothing is wiped", x.has(8), 0);
    Check.due("wipe(0, 3, 4)", x.wipe(0, 3, 4), 2);
    Check.due("blank", x.sign(0, 4, 0), 0);
    Check.due("no eyes of a blank", x.sign(0, 4, 1), 0);
    Check.due("a blank is not dry", x.sign(0, 4, 2), -1);
    Check.due("leaf(0, 1)", x.leaf(0, 1), 2);
    Check.due("leaf(0, 2)", x.leaf(0, 2), 1);
    Check.due("leaf(0, 3)", x.leaf(0, 3), 2);
    Check.due("wipe of blanks", x.wipe(0, 3, 4), 0);
    Check.due("wipe backwards", x.wipe(0, 4, 3), -1);
    Check.due("wipe behind the leaf", x.wipe(0, 3, 5), -1);
    Check.due("wipe from -1", x.wipe(0, -1, 0), -1);
    Check.due("wipe of no leaf", x.wipe(3, 0, 0), -1);
    Check.due("changes", x.has(10), 2);
    Check.due("read of a blank", x.read(0, 4, 4, 9), 0);
    Check.due("still blank", x.sign(0, 4, 2), -1);
  }

  private static void writing() {
    WetInk x = Check.told(BOOK);
    x.hours(2);
    Check.due("write over a wet one", x.write(0, 0, 26, 1), 1);
    Check.due("its letter", x.sign(0, 0, 0), 26);
    Check.due("a rule counts for what is written", x.write(0, 1, 3, 0), 2);
    Check.due("write on a blank", x.wipe(0, 4, 4) + x.write(0, 4, 1, 0), 4);
    Check.due("its letter", x.sign(0, 4, 0), 1);
    Check.due("letter 0", x.write(0, 4, 0, 0), -1);
    Check.due("letter 27", x.write(0, 4, 27, 0), -1);
    Check.due("ink 2", x.write(0, 4, 1, 2), -1);
    Check.due("ink -1", x.write(0, 4, 1, -1), -1);
    Check.due("place 5", x.write(0, 5, 1, 0), -1);
    Check.due("place -1", x.write(0, -1, 1, 0), -1);
    Check.due("leaf 3", x.write(3, 0, 1, 0), -1);
    x.read(0, 4, 4, 3);
    Check.due("write on a dry one", x.write(0, 4, 2, 0), -1);
    Check.due("it stands", x.sign(0, 4, 0), 1);
    Check.due("the same letter is no change", x.has(10) + 10 * x.write(0, 0, 26, 0), 34);
    Check.due("but needs eyes anew", x.sign(0, 0, 1), 3);
    Check.due("changes", x.has(10), 4);
    WetInk y = Check.told("ink a eyes 5;leaf ab ink a;eyes 0 when letter=26;");
    y.hours(4);
    Check.due("needs none", y.write(0, 1, 26, 0), 0);
    Check.due("so it is dry since now", y.sign(0, 1, 2), 4);
  }

  private static void pressing() {
    WetInk x = Check.told(BOOK);
    x.read(0, 1, 1, 9);
    Check.due("press(0, 1)", x.press(0, 1), 2);
    Check.due("ghost of place 0", x.sign(1, 2, 3), 1);
    Check.due("none of a dry sign", x.sign(1, 1, 3), 0);
    Check.due("ghost of place 2", x.sign(1, 0, 3), 3);
    Check.due("the sign stays", x.sign(1, 0, 0), 24);
    Check.due("ghosts", x.has(9), 2);
    Check.due("of the leaf", x.leaf(1, 4), 2);
    Check.due("no changes", x.has(10), 0);
    Check.due("press(2, 1)", x.press(2, 1), 1);
    Check.due("the latest counts", x.sign(1, 2, 3), 17);
    Check.due("ghosts still", x.has(9), 2);
    Check.due("press(1, 2)", x.press(1, 2), 1);
    Check.due("the first sign of it", x.sign(2, 0, 3), 24);
    x.wipe(1, 0, 2);
    Check.due("ghosts stay when it is wiped", x.leaf(1, 4), 2);
    Check.due("a blank leaf has nothing to press", x.press(1, 0), 0);
    x.write(1, 0, 5, 0);
    Check.due("ghosts stay when it is written on", x.sign(1, 0, 3), 3);
    Check.due("press on itself", x.press(1, 1), -1);
    Check.due("press of none", x.press(3, 1), -1);
    Check.due("press on none", x.press(1, 3), -1);
    Check.due("press of -1", x.press(-1, 1), -1);
    Check.due("press on -1", x.press(1, -1), -1);
  }

  private static void sitting() {
    WetInk x = Check.told(BOOK);
    for (int what = 0; what < 3; what++) {
      Check.due("reader at none, " + what, x.reader(0, what), what == 0 ? -1 : 0);
    }
    Check.due("seat(0, 0)", x.seat(0, 0), 3);
    Check.due("seat again", x.seat(0, 1), -1);
    Check.due("seat of no reader", x.seat(2, 0), -1);
    Check.due("seat of reader -1", x.seat(-1, 0), -1);
    Check.due("seat at no leaf", x.seat(1, 3), -1);
    Check.due("seat at leaf -1", x.seat(1, -1), -1);
    Check.due("it stays at none", x.reader(1, 0), -1);
    Check.due("seat(1, 0): two at one leaf", x.seat(1, 0), 2);
    Check.due("its leaf", x.reader(0, 0), 0);
    Check.due("its place", x.reader(0, 1), 0);
    Check.due("its hours", x.reader(0, 2), 3);
    Check.due("reader(0, 3)", x.reader(0, 3), -1);
    Check.due("reader(0, -1)", x.reader(0, -1), -1);
    Check.due("reader(2, 0)", x.reader(2, 0), -1);
    Check.due("reader(-1, 0)", x.reader(-1, 0), -1);
    x.hours(1);
    Check.due("its place behind an hour", x.reader(0, 1), 2);
    Check.due("its hours behind an hour", x.reader(0, 2), 2);
    Check.due("the other's place", x.reader(1, 1), 3);
    x.hours(1);
    Check.due("the other is through", x.reader(1, 0), -1);
    Check.due("at place 0", x.reader(1, 1), 0);
    Check.due("seat it anew", x.seat(1, 2), 1);
  }

  private static void hoursGoBy() {
    WetInk x = Check.told(BOOK);
    Check.due("hours(0)", x.hours(0), -1);
    Check.due("hours(-1)", x.hours(-1), -1);
    Check.due("hours(1000)", x.hours(1000), -1);
    Check.due("hour 0 still", x.has(5), 0);
    x.seat(1, 1);
    Check.due("hours(1)", x.hours(1), 2);
    Check.due("dry since the next hour", x.sign(1, 0, 2), 1);
    Check.due("skipped", x.sign(1, 1, 1), 1);
    Check.due("dry, too", x.sign(1, 2, 2), 1);
    x.seat(0, 0);
    x.seat(1, 0);
    Check.due("both read place 2: hours(2)", x.hours(2), 1);
    Check.due("in hour 3", x.sign(0, 2, 2), 3);
    Check.due("place 0 has two eyes", x.sign(0, 0, 1), 1);
    Check.due("place 1 has one", x.sign(0, 1, 1), 2);
    Check.due("place 4 has one till now", x.sign(0, 4, 1), 2);
    Check.due("hours(999)", x.hours(999), 0);
    Check.due("place 4 has two", x.sign(0, 4, 1), 1);
    Check.due("hour", x.has(5), 1002);
    WetInk y = Check.told("ink a eyes 1;leaf abcdefghij ink a;reader r pace 64 skips 9 pay 0;reader s pace 64 skips 3 pay 0;");
    y.seat(0, 0);
    Check.due("all but the ninth", y.hours(1), 9);
    Check.due("place 8 is skipped", y.sign(0, 8, 1), 1);
    y.seat(1, 0);
    Check.due("by the other one, too", y.hours(1), 0);
  }

  private static void lastHour() {
    WetInk x = Check.told(BOOK);
    for (int i = 0; i < 10; i++) {
      Check.due("hours(999)", x.hours(999), 0);
    }
    Check.due("hours(10)", x.hours(10), -1);
    Check.due("run(10)", x.run(10), -1);
    Check.due("hour 9990 still", x.has(5), 9990);
    Check.due("hours(8)", x.hours(8), 0);
    Check.due("run(2)", x.run(2), -1);
    Check.due("run(1) comes to the last hour", x.run(1) >= 0, true);
    Check.due("hour 9999", x.has(5), 9999);
    Check.due("hours(1)", x.hours(1), -1);
    Check.due("run(1)", x.run(1), -1);
    Check.due("hour 9999 still", x.has(5), 9999);
    x.read(0, 4, 4, 9);
    Check.due("dry since", x.sign(0, 4, 2), 9999);
    x.image();
    Check.due("the hour's higher byte", x.octet(0), 39);
    Check.due("the hour's lower byte", x.octet(1), 15);
  }

  private static void runs() {
    WetInk x = new WetInk();
    Check.due("run without a book", x.run(1), -1);
    Check.tell(x, "ink a eyes 1;leaf a ink a;");
    Check.due("run without readers", x.run(1), -1);
    Check.tell(x, "reader r pace 1 skips 0 pay 0;");
    Check.due("run without leaves", x.run(1), -1);
    Check.due("hour 0 still", x.has(5), 0);
    x = Check.told(BOOK);
    Check.due("run(0)", x.run(0), -1);
    Check.due("run(201)", x.run(201), -1);
    Check.due("seed(-1)", x.seed(-1), false);
    // seed 1: the draws are 1103527590 / 64 mod 2, then 2524885223 / 64 mod 3, worked out by hand below
    long s = (1103515245L * 1 + 12345) % (1L << 31);
    int reader = (int) (s / 64 % 2);
    s = (1103515245L * s + 12345) % (1L << 31);
    int leaf = (int) (s / 64 % 3);
    int through = reader == 0 ? 2 : 3;
    int places = new int[] {5, 3, 1}[leaf];
    int dried = x.run(1);
    Check.due("hour 1", x.has(5), 1);
    Check.due("the drawn reader's leaf", x.reader(reader, 0), places > through ? leaf : -1);
    Check.due("the other is at none", x.reader(1 - reader, 0), -1);
    Check.due("what dried", dried, x.has(7));
    WetInk y = Check.told(BOOK);
    Check.due("seed(1)", y.seed(1), true);
    y.run(150);
    x.run(149);
    same("seed 1 is the first one", x, y);
    WetInk z = Check.told(BOOK);
    z.seed(77);
    z.run(40);
    WetInk w = Check.told(BOOK);
    w.seed(77);
    w.run(200);
    Check.due("run(200)", w.has(5), 200);
    Check.tell(w, BOOK);
    w.seed(77);
    for (int i = 0; i < 40; i++) {
      w.run(1);
      Check.due("a refused run draws nothing", w.run(201), -1);
    }
    same("40 hours one by one", z, w);
    Check.due("seed(0)", w.seed(0), true);
    Check.due("seed(2147483647)", w.seed(Integer.MAX_VALUE), true);
    Check.due("run behind it", w.run(1) >= 0, true);
  }

  private static void same(String what, WetInk a, WetInk b) {
    int[] one = Check.imageOf(a);
    int[] other = Check.imageOf(b);
    for (int k = 0; k < one.length; k++) {
      Check.due(what + ", byte " + k, one[k], other[k]);
    }
  }
}
