/** "NONE when there is none such", of every call: just behind the last one, in full books and where more has been. */
final class NoneEdges {
  private static final int[] FAR = {-1, -2, 64, 512, Integer.MIN_VALUE, Integer.MAX_VALUE};

  private NoneEdges() {
  }

  static void run() {
    fullBook();
    whereMoreHasBeen();
    withoutABook();
  }

  /** Six inks, eight leaves of 64 places, four readers, eight rules, sixteen words. */
  private static String full() {
    StringBuilder book = new StringBuilder();
    for (int i = 0; i < 6; i++) {
      book.append("ink i").append((char) ('a' + i)).append(" eyes 2;");
    }
    for (int i = 0; i < 8; i++) {
      book.append("leaf ").append(Check.times("" + (char) ('a' + i), 64)).append(" ink ia;");
    }
    for (int i = 0; i < 4; i++) {
      book.append("reader r").append((char) ('a' + i)).append(" pace 9 skips 0 pay 1;");
    }
    book.append(Check.times("eyes 3 when place=1;", 8));
    for (int i = 0; i < 16; i++) {
      book.append("word ").append((char) ('a' + i)).append(";");
    }
    return book.toString();
  }

  private static void fullBook() {
    Check.of("NONE when there is none such: a full book");
    WetInk x = Check.told(full());
    int[] before = Check.stateOf(x);
    nothingBehind(x, 6, 8, 4, 16, 64);
    Check.same("nothing is done", Check.stateOf(x), before);
    Check.due("the last leaf's last place", x.write(7, 63, 26, 5), 2);
    Check.due("the last reader", x.seat(3, 7), 8);
    Check.due("the last word", x.begins(0, 15, 63), 0);
  }

  private static void whereMoreHasBeen() {
    Check.of("NONE when there is none such: a small book behind two full ones");
    WetInk x = Check.told(full());
    for (int r = 0; r < 4; r++) {
      x.seat(r, r);
    }
    x.press(0, 7);
    Check.due("a second full one", Check.tell(x, full()), 42);
    x.press(0, 7);
    x.wipe(3, 0, 63);
    Check.due("a small one", Check.tell(x, "ink i eyes 2;leaf ab ink i;reader r pace 1 skips 0 pay 0;word a;"), 4);
    int[] before = Check.stateOf(x);
    nothingBehind(x, 1, 1, 1, 1, 2);
    Check.same("nothing is done", Check.stateOf(x), before);
    Check.due("its image", x.image(), 11);
    Check.due("one without leaves", Check.tell(x, "word a;"), 1);
    nothingBehind(x, 0, 0, 0, 1, 0);
    Check.due("an empty one", Check.tell(x, ""), 0);
    nothingBehind(x, 0, 0, 0, 0, 0);
    Check.due("its image", x.image(), 3);
  }

  private static void withoutABook() {
    Check.of("NONE when there is none such: a new object");
    nothingBehind(new WetInk(), 0, 0, 0, 0, 0);
  }

  private static void nothingBehind(WetInk x, int inks, int leaves, int readers, int words, int places) {
    for (int k = 0; k < FAR.length + 17; k++) {
      int far = k < 17 ? k : FAR[k - 17];
      if (far < 0 || far >= leaves) {
        noLeaf(x, far);
      }
      if (far < 0 || far >= readers) {
        noReader(x, far);
      }
      if (far < 0 || far >= places) {
        noPlace(x, 0, far);
        noPlace(x, leaves - 1, far);
      }
      if (far < 0 || far >= inks) {
        Check.due("letter of ink " + far, x.letter(0, far, 0), -1);
        Check.due("write with ink " + far, x.write(0, 0, 1, far), -1);
      }
      if (far < 0 || far >= words) {
        Check.due("letter of word " + far, x.letter(2, far, 0), -1);
        Check.due("begins of word " + far, x.begins(0, far, 0), -1);
      }
    }
  }

  private static void noLeaf(WetInk x, int leaf) {
    for (int what = 0; what < 7; what++) {
      Check.due("leaf " + leaf + ", " + what, x.leaf(leaf, what), -1);
    }
    Check.due("seat at leaf " + leaf, x.seat(0, leaf), -1);
    Check.due("press of leaf " + leaf, x.press(leaf, 0), -1);
    Check.due("press on leaf " + leaf, x.press(0, leaf), -1);
    Check.due("altered on leaf " + leaf, x.altered(leaf, 0), -1);
    for (int what = 0; what < 2; what++) {
      Check.due("WET span of leaf " + leaf, x.span(leaf, true, what), -1);
      Check.due("DRY span of leaf " + leaf, x.span(leaf, false, what), -1);
    }
    Check.due("texts of leaf " + leaf, x.texts(leaf), -1);
    Check.due("text of leaf " + leaf, x.text(leaf, 0, 0), -1);
    noPlace(x, leaf, 0);
    noPlace(x, leaf, 1);
  }

  private static void noPlace(WetInk x, int leaf, int place) {
    String at = " of leaf " + leaf + ", place " + place;
    for (int what = 0; what < 4; what++) {
      Check.due("sign" + at, x.sign(leaf, place, what), -1);
      Check.due("hire" + at, x.hire(leaf, place, place, what), -1);
    }
    Check.due("read" + at, x.read(leaf, place, place, 1), -1);
    Check.due("read up to" + at, x.read(leaf, 0, place, 1), -1);
    Check.due("wipe" + at, x.wipe(leaf, place, place), -1);
    Check.due("write" + at, x.write(leaf, place, 1, 0), -1);
    Check.due("stood" + at, x.stood(leaf, place, 0), -1);
    Check.due("dries" + at, x.dries(leaf, place, place), -1);
    Check.due("forge" + at, x.forge(leaf, place, place, 1, x.has(5)), -1);
    Check.due("bars" + at, x.bars(leaf, place, place, 1, x.has(5)), -1);
    Check.due("could" + at, x.could(leaf, place), -1);
    Check.due("begins" + at, x.begins(leaf, 0, place), -1);
  }

  private static void noReader(WetInk x, int reader) {
    for (int what = 0; what < 3; what++) {
      Check.due("reader " + reader + ", " + what, x.reader(reader, what), -1);
    }
    Check.due("letter of reader " + reader, x.letter(1, reader, 0), -1);
    Check.due("seat of reader " + reader, x.seat(reader, 0), -1);
    if (reader >= 0 && reader < 512) {
      Check.due("hire of reader " + reader, x.hire(0, 0, 0, 2 + reader), -1);
    }
  }
}
