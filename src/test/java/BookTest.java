/** Promises 1 to 7: a new object, the tape, books and their faults, counts and names. */
public final class BookTest {
  public static void main(String[] args) {
    newObject();
    tape();
    goodBooks();
    wordsAndMarks();
    numbers();
    names();
    openAtOnce();
    tooMany();
    rulesCount();
    clearing();
    manyBooks();
    Check.finish("BookTest");
  }

  private static void newObject() {
    WetInk x = new WetInk();
    for (int what = 0; what <= 10; what++) {
      Check.due("has(" + what + ") of a new object", x.has(what), 0);
    }
    Check.due("has(-1)", x.has(-1), -1);
    Check.due("has(11)", x.has(11), -1);
    Check.due("fault(0) ahead of any", x.fault(0), 0);
    Check.due("fault(1) ahead of any", x.fault(1), -1);
    Check.due("fault(2)", x.fault(2), -1);
    Check.due("fault(-1)", x.fault(-1), -1);
  }

  private static void tape() {
    WetInk x = new WetInk();
    Check.due("end(0) of nothing", x.end(0), true);
    Check.due("end(1) of nothing", x.end(1), false);
    for (int i = 1; i <= 80; i++) {
      Check.due("feed " + i, x.feed(0x20202020, 0x0a0a0a0a, 0x20202020, 0x20202020, 0x20202020), 20 * i);
    }
    Check.due("feed of too many", x.feed(1, 2, 3, 4, 5), -1);
    Check.due("end(1601)", x.end(1601), false);
    Check.due("end(-1)", x.end(-1), false);
    Check.due("end(1581)", x.end(1581), true);
    Check.due("feed behind 1581", x.feed(1, 2, 3, 4, 5), -1);
    Check.due("end(1582)", x.end(1582), false);
    Check.due("end(1580)", x.end(1580), true);
    Check.due("feed behind 1580", x.feed(0x20202020, 0x20202020, 0x20202020, 0x20202020, 0x20202020), 1600);
    Check.due("book of blanks", x.book(), 0);
    Check.due("the tape went", x.end(1), false);
    WetInk y = new WetInk();
    y.feed(0xfffefdfc, 0, 0, 0, 0);
    y.book();
    Check.due("fault of byte 255", y.fault(0), 1);
    Check.due("its place", y.fault(1), 0);
    y.feed(0x696e6b20, 0x61ff2020, 0, 0, 0);
    y.end(6);
    y.book();
    Check.due("the second byte of the second number", y.fault(1), 5);
  }

  private static void goodBooks() {
    WetInk x = Check.told("");
    Check.due("leaves of no text", x.has(1), 0);
    x = Check.told("\n ink  oak\neyes 20 ;ink b eyes 0001;leaf inkeyes ink oak;leaf zz ink b;"
        + "reader lettex pace 64 skips 9 pay 99;"
        + "reader r pace 1 skips 0 pay 0;reader s pace 1 skips 2 pay 5;word all;word abcdefghijkl;guard 99 98;guard 7 3;"
        + "eyes 1+2*3-(4/place)when not[leaf<1 or letter>2 and needs=3]and all;");
    Check.due("has inks", x.has(0), 2);
    Check.due("has leaves", x.has(1), 2);
    Check.due("has readers", x.has(2), 3);
    Check.due("has rules", x.has(3), 1);
    Check.due("has words", x.has(4), 2);
    Check.due("the last guard counts", x.guard(3), 1);
    Check.due("the first guard does not", x.guard(98), 0);
    letters(x, 0, 0, "oak");
    letters(x, 0, 1, "b");
    letters(x, 1, 0, "lettex");
    letters(x, 1, 2, "s");
    letters(x, 2, 0, "all");
    letters(x, 2, 1, "abcdefghijkl");
    Check.due("letter of no ink", x.letter(0, 2, 0), -1);
    Check.due("letter of ink -1", x.letter(0, -1, 0), -1);
    Check.due("letter of no reader", x.letter(1, 3, 0), -1);
    Check.due("letter of no word", x.letter(2, 2, 0), -1);
    Check.due("letter of no kind", x.letter(3, 0, 0), -1);
    Check.due("letter of kind -1", x.letter(-1, 0, 0), -1);
    Check.due("letter -1", x.letter(0, 0, -1), -1);
    Check.due("letter 12", x.letter(0, 0, 12), -1);
    Check.told("ink a eyes 1;leaf " + Check.times("z", 64) + " ink a;");
    Check.told(Check.times("guard 1 0;", 80));
    Check.told(Check.times("guard 1 0;", 80) + " \n ");
  }

  private static void letters(WetInk x, int kind, int which, String name) {
    for (int k = 0; k < 12; k++) {
      int want = k < name.length() ? name.charAt(k) - 'a' + 1 : 0;
      Check.due("letter(" + kind + ", " + which + ", " + k + ")", x.letter(kind, which, k), want);
    }
  }

  private static void wordsAndMarks() {
    Check.faulty("x", 1, 0);
    Check.faulty(" \nInk a eyes 2;", 1, 2);
    Check.faulty("\tink a eyes 2;", 1, 0);
    Check.faulty("in", 1, 0);
    Check.faulty("inkk a eyes 2;", 1, 0);
    Check.faulty(";", 1, 0);
    Check.faulty("ink a eyes 2;;", 1, 13);
    Check.faulty("5", 1, 0);
    Check.faulty("all;", 1, 0);
    Check.faulty("ink", 1, 3);
    Check.faulty("ink  \n", 1, 6);
    Check.faulty("ink a", 1, 5);
    Check.faulty("ink a eye 2;", 1, 6);
    Check.faulty("ink a eyess 2;", 1, 6);
    Check.faulty("ink a eyes", 1, 10);
    Check.faulty("ink a eyes two;", 1, 11);
    Check.faulty("ink a eyes 2", 1, 12);
    Check.faulty("ink a eyes 2 ", 1, 13);
    Check.faulty("ink a eyes 2,", 1, 12);
    Check.faulty("ink a eyes 2 3;", 1, 13);
    Check.faulty("ink a eyes -2;", 1, 11);
    Check.faulty("ink 5 eyes 2;", 1, 4);
    Check.faulty("ink a2 eyes 2;", 1, 5);
    Check.faulty("ink a eyes2;", 1, 10);
    Check.faulty("reader a pace 5skips 0 pay 1;", 1, 15);
    Check.faulty("eyes 5when all;", 1, 6);
    Check.faulty("eyes 5 when all", 1, 15);
    Check.faulty("eyes 5 when ;", 1, 12);
    Check.faulty("eyes when all;", 1, 5);
    Check.faulty("eyes 5 when 5;", 1, 13);
    Check.faulty("eyes 5 when all or;", 1, 18);
    Check.faulty("eyes 5 when all all;", 1, 16);
    Check.faulty("eyes 5 when not;", 1, 15);
    Check.faulty("eyes 5 when [all;", 1, 16);
    Check.faulty("eyes 5 when (all);", 1, 13);
    Check.faulty("eyes 5 when [1]=1;", 1, 14);
    Check.faulty("eyes 5 when (1)=1];", 1, 17);
    Check.faulty("eyes 5 when 1=1=1;", 1, 15);
    Check.faulty("eyes 5 when 1<>1;", 1, 14);
    Check.faulty("eyes [5] when all;", 1, 5);
    Check.faulty("eyes not 5 when all;", 1, 5);
    Check.faulty("eyes min 5 when all;", 1, 9);
    Check.faulty("eyes min(5) when all;", 1, 10);
    Check.faulty("eyes min(5,6,7) when all;", 1, 12);
    Check.faulty("eyes max(5,6 when all;", 1, 13);
    Check.faulty("eyes -5 when all;", 1, 5);
    Check.faulty("eyes 5+ when all;", 1, 8);
    Check.faulty("eyes 5 + * 6 when all;", 1, 9);
    Check.faulty("eyes eyes when all;", 1, 5);
    Check.faulty("eyes x when all;", 1, 5);
    Check.faulty("word ;", 1, 5);
    Check.faulty("word a1;", 1, 6);
    Check.faulty("word a b;", 1, 7);
    Check.faulty("leaf ab in", 1, 8);
    Check.faulty("guard 4;", 1, 7);
    Check.faulty("guard 4 1 1;", 1, 10);
    Check.faulty("guard;", 1, 5);
  }

  private static void numbers() {
    Check.faulty("ink a eyes 0;", 2, 11);
    Check.faulty("ink a eyes 21", 2, 11);
    Check.faulty("ink a eyes 9999", 2, 11);
    Check.faulty("ink a eyes 00002;", 1, 15);
    Check.faulty("ink a eyes 99999", 1, 15);
    Check.faulty("ink a eyes 21x", 2, 11);
    Check.faulty("ink a eyes 20x", 1, 13);
    Check.faulty("reader a pace 0 skips 0 pay 1;", 2, 14);
    Check.faulty("reader a pace 65 skips 0 pay 1;", 2, 14);
    Check.faulty("reader a pace 64 skips 1 pay 1;", 2, 23);
    Check.faulty("reader a pace 64 skips 1pay 1;", 2, 23);
    Check.faulty("reader a pace 64 skips 10 pay 1;", 2, 23);
    Check.faulty("reader a pace 64 skips 9 pay 100;", 2, 29);
    Check.faulty("guard 0 0;", 2, 6);
    Check.faulty("guard 100 0;", 2, 6);
    Check.faulty("guard 5 5;", 2, 8);
    Check.faulty("guard 5 99;", 2, 8);
    Check.faulty("guard 99 99;", 2, 9);
    Check.faulty("eyes 12345 when all;", 1, 9);
    Check.told("eyes 9999+0000 when 9999=place;");
  }

  private static void names() {
    Check.faulty("ink ink eyes 2;", 1, 4);
    Check.faulty("ink max eyes 2;", 1, 4);
    Check.faulty("ink abcdefg eyes 2;", 1, 10);
    Check.faulty("reader letter pace 1 skips 0 pay 0;", 1, 7);
    Check.faulty("reader letters pace 1 skips 0 pay 0;", 1, 13);
    Check.told("ink maxx eyes 2;ink abcdef eyes 2;reader wordy pace 1 skips 0 pay 0;");
    Check.faulty("ink a eyes 2;ink a eyes 2;", 3, 17);
    Check.faulty("ink a eyes 2;ink a", 3, 17);
    Check.faulty("ink a eyes 2;reader a pace 1 skips 0 pay 0;", 3, 20);
    Check.faulty("reader a pace 1 skips 0 pay 0;ink a eyes 2;", 3, 34);
    Check.faulty("reader a pace 1 skips 0 pay 0;reader a pace 1 skips 0 pay 0;", 3, 37);
    Check.faulty("leaf ab ink a;ink a eyes 2;", 3, 12);
    Check.faulty("ink a eyes 2;leaf ab ink b;", 3, 25);
    Check.faulty("reader a pace 1 skips 0 pay 0;leaf ab ink a;", 3, 42);
    Check.faulty("ink a eyes 2;leaf ab ink pay;", 1, 25);
    Check.faulty("ink a eyes 2;leaf ab ink abcdefgh;", 1, 31);
    Check.faulty("ink a eyes 2;leaf " + Check.times("a", 65) + " ink a;", 1, 82);
    Check.faulty("ink a eyes 2;leaf " + Check.times("a", 70) + " ink a;", 1, 82);
    Check.faulty("leaf ab reader a;", 1, 8);
    Check.faulty("leaf 5 ink a;", 1, 5);
    Check.faulty("word ab;word a;word ab;", 3, 20);
    Check.faulty("word abcdefghijklm;", 1, 17);
    Check.told("word ab;word a;word ba;word abc;word word;");
    // the book that has a fault leaves no name behind for the next one
    WetInk x = new WetInk();
    Check.due("a book with a fault", Check.tell(x, "ink a eyes 2;word b;x"), -1);
    Check.due("its ink is not told", Check.tell(x, "leaf ab ink a;"), -1);
    Check.due("so that is a fault", x.fault(0), 3);
    Check.due("its names are free", Check.tell(x, "ink a eyes 2;word b;"), 2);
    Check.due("no fault any more", x.fault(0), 0);
    Check.due("no place any more", x.fault(1), -1);
  }

  private static void openAtOnce() {
    Check.told("eyes ((((((1)))))) when all;");
    Check.faulty("eyes (((((((1))))))) when all;", 4, 11);
    Check.faulty("eyes (((((((", 4, 11);
    Check.told("eyes 1 when [[[[[[all]]]]]];");
    Check.faulty("eyes 1 when [[[[[[[all]]]]]]];", 4, 18);
    Check.told("eyes 1 when not not not not not not all;");
    Check.faulty("eyes 1 when not not not not not not not all;", 4, 36);
    Check.faulty("eyes 1 when not not not not not not (1)=1;", 4, 36);
    Check.faulty("eyes 1 when not not not not not not 1=(1);", 4, 38);
    Check.told("eyes 1 when not not not not not not 1=1 and (1)=1 or not not not not not not all;");
    Check.told("eyes 1 when [not not not not not all] and [[[[[[all]]]]]];");
    Check.faulty("eyes 1 when [not not not not not all and [not all]or not[not[not not not all]]];", 4, 65);
    Check.faulty("eyes min(1,max(1,min(1,min(1,min(1,min(1,min(1,2))))))) when all;", 4, 44);
    Check.told("eyes min(1,max(1,min(1,min(1,min(1,min(1,2)))))) when all;");
    Check.told("eyes min((((((1))))),1)+(1)*((1)) when all;");
    Check.told("eyes 1" + Check.times("+(1)", 30) + " when all" + Check.times(" and not all", 30) + ";");
    // marks that can't stand there are faults of the first kind, however many are open
    Check.faulty("eyes 1 when [[[[[[ ) ]]]]]];", 1, 19);
    Check.faulty("eyes ((((((not", 1, 11);
    Check.faulty("eyes ((((((1(", 1, 12);
  }

  private static void tooMany() {
    String six = "ink a eyes 1;ink b eyes 1;ink c eyes 1;ink d eyes 1;ink e eyes 1;ink f eyes 1;";
    Check.told(six);
    Check.faulty(six + " ink g eyes 1;", 5, six.length() + 1);
    Check.faulty(six + "ink", 5, six.length());
    Check.faulty(six + "ink2", 5, six.length());
    Check.faulty(six + "inks", 1, six.length());
    String eight = "ink a eyes 1;" + Check.times("leaf a ink a;", 8);
    Check.told(eight);
    Check.faulty(eight + "leaf", 5, eight.length());
    String four = "";
    for (char c = 'a'; c < 'e'; c++) {
      four += "reader " + c + " pace 1 skips 0 pay 0;";
    }
    Check.told(four);
    Check.faulty(four + "reader e pace 1 skips 0 pay 0;", 5, four.length());
    String rules = Check.times("eyes 1 when all;", 8);
    Check.told(rules);
    Check.faulty(rules + "\neyes ;", 5, rules.length() + 1);
    String words = "";
    for (char c = 'a'; c < 'q'; c++) {
      words += "word " + c + ";";
    }
    Check.told(words);
    Check.faulty(words + "word a;", 5, words.length());
    String all = Check.times("guard 2 1;", 80);
    Check.faulty(all + "guard 2 1;", 5, 800);
    Check.faulty(all + "  %", 5, 802);
    Check.faulty(all + "7", 5, 800);
    Check.faulty(Check.times("guard 2 1;", 79) + "%", 1, 790);
  }

  private static void rulesCount() {
    WetInk x = Check.told("ink a eyes 7;leaf ab ink a;eyes 1 when letter=1;eyes 2 when all;");
    Check.due("rules", x.has(3), 2);
    Check.due("the first rule", x.sign(0, 0, 1), 1);
    Check.due("the second rule", x.sign(0, 1, 1), 2);
  }

  /** The room of a book that is gone is used again: nothing of it may show. */
  private static void manyBooks() {
    String full = "ink a eyes 1;ink b eyes 2;leaf abc ink a;leaf abcd ink b;leaf z ink a;eyes 9 when place=1;eyes 8 when leaf=1;"
        + "reader r pace 1 skips 0 pay 0;reader s pace 1 skips 0 pay 0;word ab;word c;guard 5 2;";
    WetInk x = Check.told(full);
    for (int i = 0; i < 6; i++) {
      Check.due("a small book", Check.tell(x, "ink b eyes 4;leaf xyz ink b;"), 2);
      counts(x, 1, 1, 0, 0, 0);
      Check.due("no rule", x.leaf(0, 6), 12);
      Check.due("no guard", x.guard(2), 0);
      if (i % 2 == 0) {
        Check.due("a book with a fault", Check.tell(x, full + "x"), -1);
        counts(x, 1, 1, 0, 0, 0);
      }
      Check.due("a book without leaves", Check.tell(x, "word a;word b;word ab;"), 3);
      counts(x, 0, 0, 0, 0, 3);
      if (i > 2) {
        Check.due("the full book", Check.tell(x, full), 12);
        counts(x, 2, 3, 2, 2, 2);
        Check.due("its rules", x.leaf(1, 6), 33);
        Check.due("its guard", x.guard(7), 1);
      }
    }
  }

  private static void counts(WetInk x, int inks, int leaves, int readers, int rules, int words) {
    Check.due("inks", x.has(0), inks);
    Check.due("leaves", x.has(1), leaves);
    Check.due("readers", x.has(2), readers);
    Check.due("rules", x.has(3), rules);
    Check.due("words", x.has(4), words);
  }

  private static void clearing() {
    WetInk x = Check.told("ink a eyes 1;leaf abc ink a;leaf abc ink a;reader r pace 1 skips 0 pay 0;word a;guard 2 1;"
        + "eyes 3 when all;");
    x.press(0, 1);
    x.wipe(0, 0, 0);
    x.seat(0, 0);
    x.hours(1);
    Check.due("ghosts came", x.has(9), 3);
    Check.due("a change came", x.has(10), 1);
    Check.due("another book", Check.tell(x, "ink a eyes 1;leaf abc ink a;reader r pace 1 skips 0 pay 0;"), 3);
    Check.due("its leaves", x.has(1), 1);
    Check.due("no rules", x.has(3), 0);
    Check.due("no words", x.has(4), 0);
    Check.due("hour", x.has(5), 0);
    Check.due("wet signs", x.has(6), 3);
    Check.due("blanks", x.has(8), 0);
    Check.due("ghosts", x.has(9), 0);
    Check.due("changes", x.has(10), 0);
    Check.due("the reader is at none", x.reader(0, 0), -1);
    Check.due("the guard is never there", x.guard(1), 0);
    Check.due("eyes", x.sign(0, 2, 1), 1);
  }
}
