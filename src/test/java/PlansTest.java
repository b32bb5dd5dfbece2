/** Promises 23 to 27: hires, when a span dries, the forger, the bars, the guard. */
public final class PlansTest {
  public static void main(String[] args) {
    hires();
    likeHires();
    manyEyes();
    hiresElsewhere();
    drying();
    forging();
    barring();
    guarding();
    farPlans();
    Check.finish("PlansTest");
  }

  private static void hire(WetInk x, int from, int to, int... due) {
    for (int what = 0; what < due.length; what++) {
      Check.due("hire(0, " + from + ", " + to + ", " + what + ")", x.hire(0, from, to, what), due[what]);
    }
  }

  private static String reader(String name, int skips, int pay) {
    return "reader " + name + " pace 3 skips " + skips + " pay " + pay + ";";
  }

  private static void hires() {
    WetInk x = Check.told("ink i eyes 2;leaf abcdef ink i;" + reader("a", 2, 5) + reader("b", 3, 1));
    hire(x, 0, 0, 2, 2, 0, 2);
    hire(x, 1, 1, 2, 2, 0, 2);
    hire(x, 2, 2, 2, 10, 2, 0);
    hire(x, 1, 2, 4, 12, 2, 2);
    hire(x, 5, 5, -1, -1, -1, -1);
    hire(x, 0, 5, -1, -1, -1, -1);
    Check.due("hire of others", x.hire(0, 0, 0, 4), -1);
    Check.due("hire of what -1", x.hire(0, 0, 0, -1), -1);
    Check.due("hire of no leaf", x.hire(1, 0, 0, 0), -1);
    Check.due("hire behind the leaf", x.hire(0, 0, 6, 0), -1);
    Check.due("hire backwards", x.hire(0, 1, 0, 0), -1);
    Check.due("hire from -1", x.hire(0, -1, 0, 0), -1);
    x.wipe(0, 5, 5);
    hire(x, 0, 5, 4, 12, 2, 2);
    x.read(0, 0, 4, 1);
    hire(x, 0, 5, 2, 6, 1, 1);
    x.read(0, 0, 4, 1);
    hire(x, 0, 5, 0, 0, 0, 0);
    WetInk y = Check.told("ink i eyes 2;leaf ab ink i;");
    hire(y, 0, 1, -1, -1, -1);
    y.read(0, 0, 0, 2);
    hire(y, 0, 0, 0, 0, -1);
  }

  private static void likeHires() {
    // fewest first, then pay, then fewest of the first, then of the second ones
    hire(Check.told("ink i eyes 4;leaf abc ink i;" + reader("a", 0, 9) + reader("b", 2, 1)), 0, 2, 4, 36, 4, 0);
    hire(Check.told("ink i eyes 4;leaf abc ink i;" + reader("a", 0, 9) + reader("b", 2, 1)), 0, 0, 4, 4, 0, 4);
    hire(Check.told("ink i eyes 4;leaf abc ink i;" + reader("a", 0, 2) + reader("b", 0, 2)), 0, 2, 4, 8, 0, 4);
    hire(Check.told("ink i eyes 4;leaf a ink i;" + reader("a", 0, 2) + reader("b", 0, 1) + reader("c", 0, 1) + reader("d", 0, 1)),
        0, 0, 4, 4, 0, 0, 0, 4);
    hire(Check.told("ink i eyes 4;leaf a ink i;" + reader("a", 0, 0) + reader("b", 0, 0) + reader("c", 0, 0) + reader("d", 0, 1)),
        0, 0, 4, 0, 0, 0, 4, 0);
    hire(Check.told("ink i eyes 4;leaf a ink i;" + reader("a", 0, 0) + reader("b", 0, 0) + reader("c", 0, 1) + reader("d", 0, 1)),
        0, 0, 4, 0, 0, 4, 0, 0);
  }

  private static void manyEyes() {
    String book = "ink i eyes 20;leaf abcdefghijklmnopqrstuvwxyzabcdefghijklmnopqrstuvwxyzabcdefghijkl ink i;eyes 99 when all;";
    WetInk x = Check.told(book + reader("a", 2, 99) + reader("b", 3, 98) + reader("c", 4, 97) + reader("d", 5, 96));
    hire(x, 0, 63, -1, -1);
    x.wipe(0, 59, 59);
    // place 29 is skipped by all but c, place 11 by all but d, place 19 by all but b: 99 of each; a is not needed
    hire(x, 0, 63, 297, 99 * (98 + 97 + 96), 0, 99, 99, 99);
    x.read(0, 0, 63, 98);
    hire(x, 0, 63, 3, 98 + 97 + 96, 0, 1, 1, 1);
  }

  private static void hiresElsewhere() {
    // the same readers with other pay, and other needs with the same ones: no plan outlives what it was made for
    WetInk x = Check.told("ink i eyes 2;leaf abc ink i;leaf abcd ink i;" + reader("a", 0, 1) + reader("b", 0, 2));
    hire(x, 0, 2, 2, 2, 2, 0);
    Check.due("another leaf", x.hire(1, 0, 3, 0), 2);
    Check.tell(x, "ink i eyes 2;leaf abc ink i;leaf abcd ink i;" + reader("a", 0, 2) + reader("b", 0, 1));
    hire(x, 0, 2, 2, 2, 0, 2);
    x.write(0, 0, 5, 0);
    x.read(0, 0, 0, 1);
    hire(x, 0, 0, 1, 1, 0, 1);
    hire(x, 0, 2, 2, 2, 0, 2);
  }

  private static void drying() {
    WetInk x = Check.told("ink i eyes 2;leaf abcdefg ink i;leaf ab ink i;reader a pace 2 skips 0 pay 0;reader b pace 3 skips 4 pay 0;");
    x.hours(10);
    Check.due("without readers", x.dries(0, 0, 0), -1);
    x.seat(0, 0);
    Check.due("with one reader", x.dries(0, 0, 0), -1);
    x.seat(1, 0);
    int[] due = {11, 11, 12, -1, 13, 13, 14};
    for (int place = 0; place < 7; place++) {
      Check.due("dries(0, " + place + ", " + place + ")", x.dries(0, place, place), due[place]);
    }
    Check.due("dries(0, 0, 2)", x.dries(0, 0, 2), 12);
    Check.due("dries(0, 0, 3)", x.dries(0, 0, 3), -1);
    Check.due("dries(0, 4, 6)", x.dries(0, 4, 6), 14);
    Check.due("dries of another leaf", x.dries(1, 0, 1), -1);
    x.read(0, 3, 3, 1);
    Check.due("with one eye more", x.dries(0, 0, 6), 14);
    x.wipe(0, 6, 6);
    Check.due("a blank is not wet", x.dries(0, 6, 6), 10);
    x.hours(1);
    Check.due("dry ones are dry now", x.dries(0, 0, 1), 11);
    Check.due("the others as before", x.dries(0, 0, 6), 13);
    x.hours(1);
    int dried = x.hours(1);
    Check.due("as told", dried, 2);
    Check.due("dries backwards", x.dries(0, 1, 0), -1);
    Check.due("dries behind the leaf", x.dries(0, 0, 7), -1);
    Check.due("dries from -1", x.dries(0, -1, 0), -1);
    Check.due("dries on no leaf", x.dries(2, 0, 0), -1);
    Check.due("a reader that is past a sign dries it no more", x.dries(1, 0, 0), -1);
    WetInk y = Check.told("ink i eyes 1;leaf abcd ink i;reader a pace 1 skips 0 pay 0;");
    y.seat(0, 0);
    y.hours(2);
    y.write(0, 1, 2, 0);
    Check.due("dry already", y.sign(0, 1, 2), 2);
    y.wipe(0, 2, 3);
    y.write(0, 3, 2, 0);
    Check.due("still ahead of it", y.dries(0, 3, 3), 4);
  }

  private static void forging() {
    WetInk x = Check.told("ink i eyes 1;leaf abcdef ink i;reader a pace 2 skips 0 pay 0;guard 5 2;");
    x.hours(3);
    Check.due("till now", x.forge(0, 0, 0, 1, 3), 3);
    Check.due("till 6, three hours", x.forge(0, 0, 2, 1, 6), 4);
    Check.due("till 6, four hours", x.forge(0, 0, 3, 1, 6), 3);
    Check.due("till 6, five hours", x.forge(0, 0, 4, 1, 6), -1);
    Check.due("five hours never come", x.forge(0, 0, 4, 1, 203), -1);
    Check.due("four come last in 199", x.forge(0, 0, 3, 1, 203), 198);
    Check.due("at pace 2", x.forge(0, 0, 4, 2, 203), 199);
    Check.due("at pace 64", x.forge(0, 0, 5, 64, 203), 203);
    Check.due("pace 0", x.forge(0, 0, 0, 0, 6), -1);
    Check.due("pace 65", x.forge(0, 0, 0, 65, 6), -1);
    Check.due("till ahead of now", x.forge(0, 0, 0, 1, 2), -1);
    Check.due("till too late", x.forge(0, 0, 0, 1, 204), -1);
    Check.due("backwards", x.forge(0, 1, 0, 1, 6), -1);
    Check.due("behind the leaf", x.forge(0, 0, 6, 1, 6), -1);
    Check.due("no leaf", x.forge(1, 0, 0, 1, 6), -1);
    x.seat(0, 0);
    Check.due("dry in hour 4", x.forge(0, 0, 0, 1, 203), 3);
    Check.due("the next two dry in hour 5", x.forge(0, 2, 2, 1, 203), 4);
    Check.due("he is ahead of the reader", x.forge(0, 0, 5, 2, 203), 3);
    Check.due("pace 1 is too slow", x.forge(0, 0, 5, 1, 203), -1);
    Check.due("two signs of pace 1", x.forge(0, 0, 1, 1, 203), -1);
    Check.due("from the second on", x.forge(0, 1, 2, 1, 203), 3);
    x.wipe(0, 5, 5);
    Check.due("a blank is not wet", x.forge(0, 4, 5, 2, 203), -1);
    x.read(0, 0, 0, 1);
    Check.due("nor is a dry one", x.forge(0, 0, 0, 1, 203), -1);
  }

  private static void barring() {
    WetInk x = Check.told("ink i eyes 1;leaf abcdef ink i;reader a pace 2 skips 0 pay 0;guard 5 2;");
    x.hours(3);
    Check.due("one hour alone", x.bars(0, 0, 0, 1, 3), 1);
    Check.due("3 .. 6 open, one by one", x.bars(0, 0, 0, 1, 6), 4);
    Check.due("3 .. 8, the guard in 7", x.bars(0, 0, 0, 1, 8), 5);
    Check.due("two hours", x.bars(0, 0, 1, 1, 6), 2);
    Check.due("three hours", x.bars(0, 0, 2, 1, 6), 1);
    Check.due("four hours", x.bars(0, 0, 3, 1, 6), 1);
    Check.due("four hours till 11", x.bars(0, 0, 3, 1, 11), 2);
    Check.due("five hours", x.bars(0, 0, 4, 1, 203), 0);
    Check.due("all 200", x.bars(0, 0, 0, 1, 203), 201 - 40);
    Check.due("pace 0", x.bars(0, 0, 0, 0, 6), -1);
    Check.due("pace 65", x.bars(0, 0, 0, 65, 6), -1);
    Check.due("till ahead of now", x.bars(0, 0, 0, 1, 2), -1);
    Check.due("till too late", x.bars(0, 0, 0, 1, 204), -1);
    Check.due("backwards", x.bars(0, 1, 0, 1, 6), -1);
    Check.due("behind the leaf", x.bars(0, 0, 6, 1, 6), -1);
    Check.due("no leaf", x.bars(1, 0, 0, 1, 6), -1);
    x.seat(0, 0);
    Check.due("dry in hour 4", x.bars(0, 0, 0, 1, 203), 1);
    Check.due("dry in hour 5", x.bars(0, 2, 2, 1, 203), 2);
    Check.due("pace 1 is too slow", x.bars(0, 0, 5, 1, 203), 0);
    Check.due("pace 2 is not", x.bars(0, 0, 5, 2, 203), 1);
    WetInk y = Check.told("ink i eyes 1;leaf abc ink i;");
    Check.due("without a guard", y.bars(0, 0, 2, 1, 200), 67);
    Check.due("and the last begin", y.forge(0, 0, 2, 1, 200), 198);
    Check.due("too short a time", y.bars(0, 0, 2, 1, 1), 0);
    Check.due("no begin then", y.forge(0, 0, 2, 1, 1), -1);
  }

  private static void guarding() {
    WetInk x = Check.told("guard 99 98;");
    Check.due("guard(98)", x.guard(98), 1);
    Check.due("guard(97)", x.guard(97), 0);
    Check.due("guard(197)", x.guard(197), 1);
    Check.due("guard(0)", x.guard(0), 0);
    Check.due("guard(9998)", x.guard(9998), 1);
    Check.due("guard(9999)", x.guard(9999), 0);
    Check.due("guard(-1)", x.guard(-1), -1);
    Check.due("guard(10000)", x.guard(10000), -1);
    Check.tell(x, "guard 1 0;");
    Check.due("guard(0) of each hour", x.guard(0), 1);
    Check.due("guard(9999) of each hour", x.guard(9999), 1);
    Check.tell(x, "guard 1 0;guard 5 4;");
    Check.due("the last one counts", x.guard(0), 0);
    Check.due("from hour 4 on", x.guard(4), 1);
    Check.due("guard(9999)", x.guard(9999), 1);
    Check.tell(x, "");
    Check.due("never without", x.guard(4), 0);
  }

  private static void farPlans() {
    WetInk x = Check.told("ink i eyes 1;leaf abcdef ink i;");
    for (int extreme : new int[] {Integer.MIN_VALUE, Integer.MAX_VALUE}) {
      Check.due("till " + extreme, x.forge(0, 0, 0, 1, extreme), -1);
      Check.due("till " + extreme, x.bars(0, 0, 0, 1, extreme), -1);
      Check.due("pace " + extreme, x.bars(0, 0, 0, extreme, 5), -1);
      Check.due("to " + extreme, x.hire(0, 0, extreme, 0), -1);
      Check.due("what " + extreme, x.hire(0, 0, 0, extreme), -1);
    }
  }
}
