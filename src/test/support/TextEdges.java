/** What Terms III say of TEXTS, and promises 28 to 31: each sentence that names an edge. */
final class TextEdges {
  private static final long MANY = 1_000_000_000_000_000L;
  private static final int LEAST = Integer.MIN_VALUE;
  private static final int GREATEST = Integer.MAX_VALUE;
  private static final String INK = "ink i eyes 3;";

  private TextEdges() {
  }

  static void run() {
    fill();
    signsAndGhosts();
    order();
    spellTheSame();
    mostTexts();
    texts();
    text();
    could();
    couldFromAfar();
    begins();
    beginsMany();
  }

  private static void rows(WetInk x, int leaf, int[]... rows) {
    Check.due("texts(" + leaf + ")", x.texts(leaf), rows.length);
    for (int k = 0; k < rows.length; k++) {
      row(x, leaf, k, rows[k]);
    }
    Check.due("no text behind the last", x.text(leaf, rows.length, 0), -1);
  }

  private static void row(WetInk x, int leaf, long k, int... words) {
    for (int j = 0; j < words.length; j++) {
      Check.due("text(" + leaf + ", " + k + ", " + j + ")", x.text(leaf, k, j), words[j]);
    }
    Check.due("text(" + leaf + ", " + k + ", behind)", x.text(leaf, k, words.length), -1);
  }

  private static void fill() {
    Check.of("III: TEXTS of a LEAF: rows of WORDS one behind the other, that fill it");
    WetInk x = Check.told(INK + "leaf abc ink i;leaf ab ink i;leaf abcd ink i;leaf bc ink i;leaf a ink i;word abc;word ab;");
    rows(x, 0, new int[] {0});
    rows(x, 1, new int[] {1});
    rows(x, 2);
    rows(x, 3);
    rows(x, 4);
    x.wipe(2, 0, 3);
    rows(x, 2, new int[] {1, 1});
    x.wipe(4, 0, 0);
    rows(x, 4);
    WetInk none = Check.told(INK + "leaf a ink i;");
    none.wipe(0, 0, 0);
    rows(none, 0);
  }

  private static void signsAndGhosts() {
    Check.of("III: a sign that is no BLANK stands as it is, a BLANK with a GHOST has that letter, other BLANKS any.");
    WetInk x = Check.told(INK + "leaf b ink i;leaf a ink i;leaf c ink i;word a;word b;word d;");
    rows(x, 0, new int[] {1});
    x.press(1, 0);
    rows(x, 0, new int[] {1});
    x.wipe(0, 0, 0);
    rows(x, 0, new int[] {0});
    x.press(2, 0);
    rows(x, 0);
    x.write(0, 0, 4, 0);
    rows(x, 0, new int[] {2});
    x.wipe(0, 0, 0);
    rows(x, 0);
    x.wipe(1, 0, 0);
    rows(x, 1, new int[] {0}, new int[] {1}, new int[] {2});
    x.write(1, 0, 2, 0);
    x.read(1, 0, 0, 3);
    rows(x, 1, new int[] {1});
  }

  private static void order() {
    Check.of("III: They are in the order of their WORDS by numbers, the first WORD first");
    WetInk x = Check.told(INK + "leaf aaa ink i;word aa;word a;word aaa;");
    rows(x, 0, new int[] {0, 1}, new int[] {1, 0}, new int[] {1, 1, 1}, new int[] {2});
    WetInk y = Check.told(INK + "leaf aaa ink i;word aaa;word a;word aa;");
    rows(y, 0, new int[] {0}, new int[] {1, 1, 1}, new int[] {1, 2}, new int[] {2, 1});
  }

  private static void spellTheSame() {
    Check.of("III: such as spell the same are each counted.");
    WetInk x = Check.told(INK + "leaf ab ink i;word a;word b;word ab;");
    rows(x, 0, new int[] {0, 1}, new int[] {2});
    x.wipe(0, 0, 1);
    Check.due("of two BLANKS", x.texts(0), 5);
    Check.due("begins with ab", x.begins(0, 2, 0), 1);
    Check.due("begins with a", x.begins(0, 0, 0), 2);
  }

  private static String ten() {
    StringBuilder words = new StringBuilder();
    for (char c = 'a'; c <= 'j'; c++) {
      words.append("word ").append(c).append(";");
    }
    return words.toString();
  }

  private static WetInk blank(int places, String words) {
    WetInk x = Check.told(INK + "leaf " + Check.times("z", places) + " ink i;" + words);
    x.wipe(0, 0, places - 1);
    return x;
  }

  private static void mostTexts() {
    Check.of("III: How many: 10 to the 15 at most (more is that).");
    Check.due("10 to the 14", blank(14, ten()).texts(0), MANY / 10);
    Check.due("10 to the 15", blank(15, ten()).texts(0), MANY);
    Check.due("10 to the 16", blank(16, ten()).texts(0), MANY);
    Check.due("10 to the 64", blank(64, ten()).texts(0), MANY);
    // the words of 12 letters come in 4 places of 15, with 10 to the 3 each time
    Check.due("10 to the 15 and 4000", blank(15, ten() + "word kkkkkkkkkkkk;").texts(0), MANY);
    WetInk x = blank(15, ten());
    x.write(0, 0, 1, 0);
    Check.due("one letter told", x.texts(0), MANY / 10);
    x.write(0, 0, 26, 0);
    Check.due("one letter that no word has", x.texts(0), 0);
    // nine words of a letter: 9 to the 15 is below, 9 to the 16 above
    Check.due("9 to the 15", blank(15, ten().replace("word j;", "")).texts(0), 205891132094649L);
    Check.due("9 to the 16", blank(16, ten().replace("word j;", "")).texts(0), MANY);
    // each number of this row is the sum of the two ahead of it
    Check.due("rows of ones and twos", blank(64, "word a;word bb;").texts(0), 17167680177565L);
  }

  private static void texts() {
    Check.of("Promise 28, texts: How many TEXTS a LEAF can have; -1 when there is none such.");
    WetInk x = Check.told(INK + "leaf ab ink i;leaf cd ink i;word ab;");
    Check.due("texts(0)", x.texts(0), 1);
    Check.due("none", x.texts(1), 0);
    for (int leaf : new int[] {-1, 2, LEAST, GREATEST}) {
      Check.due("leaf " + leaf, x.texts(leaf), -1);
    }
  }

  private static void text() {
    Check.of("Promise 29, text: The j-th WORD (from 0 on) of the k-th TEXT (from 0 on, below 10 to the 15) of a LEAF; NONE when there "
        + "is none such.");
    WetInk x = Check.told(INK + "leaf aaa ink i;leaf b ink i;word aa;word a;");
    rows(x, 0, new int[] {0, 1}, new int[] {1, 0}, new int[] {1, 1, 1});
    for (long k : new long[] {-1, 3, 4, MANY - 1, MANY, 1L << 32, (1L << 32) + 1, Long.MIN_VALUE, Long.MAX_VALUE}) {
      Check.due("text " + k, x.text(0, k, 0), -1);
    }
    for (int j : new int[] {-1, 2, 64, LEAST, GREATEST}) {
      Check.due("word " + j, x.text(0, 0, j), -1);
    }
    for (int leaf : new int[] {-1, 1, 2, LEAST, GREATEST}) {
      Check.due("leaf " + leaf, x.text(leaf, 0, 0), -1);
    }
    WetInk many = blank(16, ten());
    row(many, 0, 0, new int[16]);
    row(many, 0, MANY - 1, 0, 9, 9, 9, 9, 9, 9, 9, 9, 9, 9, 9, 9, 9, 9, 9);
    Check.due("10 to the 15", many.text(0, MANY, 0), -1);
    Check.due("far behind it", many.text(0, Long.MAX_VALUE, 0), -1);
    Check.due("the 64th word", blank(64, ten()).text(0, 7, 63), 7);
    Check.due("the 65th word", blank(64, ten()).text(0, 7, 64), -1);
    WetInk just = blank(15, ten());
    row(just, 0, MANY - 1, 9, 9, 9, 9, 9, 9, 9, 9, 9, 9, 9, 9, 9, 9, 9);
    Check.due("10 to the 15 of as many", just.text(0, MANY, 0), -1);
    WetInk fewer = blank(14, ten());
    row(fewer, 0, MANY / 10 - 1, 9, 9, 9, 9, 9, 9, 9, 9, 9, 9, 9, 9, 9, 9);
    Check.due("10 to the 14 of as many", fewer.text(0, MANY / 10, 0), -1);
  }

  private static void could() {
    Check.of("Promise 30, could: Which letters can stand in a place by some TEXT, as bits (1 for a, 2 for b, ..); NONE when there is "
        + "none such.");
    WetInk x = Check.told(INK + "leaf az ink i;leaf q ink i;word a;word z;word ab;");
    Check.due("a", x.could(0, 0), 1);
    Check.due("z", x.could(0, 1), 1 << 25);
    Check.due("by no TEXT", x.could(1, 0), 0);
    x.wipe(0, 0, 1);
    Check.due("a and z", x.could(0, 0), 1 + (1 << 25));
    Check.due("a, b and z", x.could(0, 1), 3 + (1 << 25));
    x.write(0, 0, 26, 0);
    Check.due("b needs an a", x.could(0, 1), 1 + (1 << 25));
    x.write(0, 0, 25, 0);
    Check.due("no TEXT at all", x.could(0, 1), 0);
    for (int place : new int[] {-1, 2, 64, LEAST, GREATEST}) {
      Check.due("place " + place, x.could(0, place), -1);
    }
    Check.due("a place of another leaf", x.could(1, 1), -1);
    for (int leaf : new int[] {-1, 2, LEAST, GREATEST}) {
      Check.due("leaf " + leaf, x.could(leaf, 0), -1);
    }
  }

  private static void couldFromAfar() {
    Check.of("Promise 30, could: by some TEXT");
    // a word of 12 letters, its first letter 11 places ahead of its last
    WetInk x = blank(13, "word abcdefghijkl;word m;");
    for (int place = 0; place < 13; place++) {
      int want = 1 << 12;
      want |= place < 12 ? 1 << place : 0;
      want |= place > 0 ? 1 << place - 1 : 0;
      Check.due("place " + place, x.could(0, place), want);
    }
    // bc fits in the midst, but nothing can stand ahead of it; de fits, but nothing can stand behind it
    WetInk y = blank(3, "word bc;word de;word abc;word dex;");
    Check.due("the midst", y.could(0, 1), 2 + (1 << 4));
    Check.due("the first", y.could(0, 0), 1 + (1 << 3));
    Check.due("the last", y.could(0, 2), 4 + (1 << 23));
    WetInk z = blank(3, "word ab;word cd;");
    for (int place = 0; place < 3; place++) {
      Check.due("none fills it, place " + place, z.could(0, place), 0);
    }
    WetInk all = blank(1, ten() + "word k;word l;word m;word n;word o;word z;");
    Check.due("sixteen letters", all.could(0, 0), (1 << 15) - 1 + (1 << 25));
  }

  private static void begins() {
    Check.of("Promise 31, begins: In how many of a LEAF's TEXTS a WORD begins in a place (10 to the 15 at most); -1 when there are "
        + "none such.");
    WetInk x = Check.told(INK + "leaf aaa ink i;leaf q ink i;word a;word aa;word b;");
    long[][] want = {{2, 1, 2}, {1, 1, 0}, {0, 0, 0}};
    for (int word = 0; word < 3; word++) {
      for (int place = 0; place < 3; place++) {
        Check.due("begins(0, " + word + ", " + place + ")", x.begins(0, word, place), want[word][place]);
      }
    }
    Check.due("of no TEXTS", x.begins(1, 0, 0), 0);
    for (int none : new int[] {-1, 3, 64, LEAST, GREATEST}) {
      Check.due("word " + none, x.begins(0, none, 0), -1);
      Check.due("place " + none, x.begins(0, 0, none), -1);
      Check.due("leaf " + none, x.begins(none, 0, 0), -1);
    }
    Check.due("leaf 2", x.begins(2, 0, 0), -1);
    Check.due("a place of another leaf", x.begins(1, 0, 1), -1);
    WetInk y = blank(3, "word bc;word de;word abc;word dex;");
    Check.due("nothing ahead of it", y.begins(0, 0, 1), 0);
    Check.due("nothing behind it", y.begins(0, 1, 0), 0);
    Check.due("whole", y.begins(0, 2, 0), 1);
  }

  private static void beginsMany() {
    Check.of("Promise 31, begins: (10 to the 15 at most)");
    for (int place : new int[] {0, 1, 7, 8, 14, 15}) {
      Check.due("10 to the 15 of 16, place " + place, blank(16, ten()).begins(0, 4, place), MANY);
      Check.due("10 to the 16 of 17, place " + place, blank(17, ten()).begins(0, 4, place), MANY);
      if (place < 15) {
        Check.due("10 to the 14 of 15, place " + place, blank(15, ten()).begins(0, 4, place), MANY / 10);
      }
    }
    Check.due("10 to the 63", blank(64, ten()).begins(0, 4, 31), MANY);
    Check.due("with none behind", blank(64, ten()).begins(0, 4, 63), MANY);
    // 9 to the 7 times 9 to the 8 is below, one more 9 above
    Check.due("9 to the 15", blank(16, ten().replace("word j;", "")).begins(0, 4, 7), 205891132094649L);
    Check.due("9 to the 16", blank(17, ten().replace("word j;", "")).begins(0, 4, 8), MANY);
  }
}
