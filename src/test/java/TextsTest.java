/** Promises 28 to 31: the texts that can have stood on a leaf. */
public final class TextsTest {
  private static final long MANY = 1_000_000_000_000_000L;

  public static void main(String[] args) {
    rows();
    ghosts();
    none();
    lettersAlone();
    many();
    edgeOfMany();
    Check.finish("TextsTest");
  }

  private static void row(WetInk x, int leaf, long k, int... words) {
    for (int j = 0; j < words.length; j++) {
      Check.due("text(" + leaf + ", " + k + ", " + j + ")", x.text(leaf, k, j), words[j]);
    }
    Check.due("text(" + leaf + ", " + k + ", behind)", x.text(leaf, k, words.length), -1);
  }

  private static void rows() {
    WetInk x = Check.told("ink i eyes 3;leaf abab ink i;leaf c ink i;word ab;word a;word b;word aba;word cc;");
    Check.due("texts(0)", x.texts(0), 5);
    row(x, 0, 0, 0, 0);
    row(x, 0, 1, 0, 1, 2);
    row(x, 0, 2, 1, 2, 0);
    row(x, 0, 3, 1, 2, 1, 2);
    row(x, 0, 4, 3, 2);
    row(x, 0, 5);
    row(x, 0, -1);
    row(x, 0, Long.MAX_VALUE);
    row(x, 0, Long.MIN_VALUE);
    Check.due("text with j -1", x.text(0, 0, -1), -1);
    Check.due("text with j greatest", x.text(0, 0, Integer.MAX_VALUE), -1);
    Check.due("text of leaf 2", x.text(2, 0, 0), -1);
    Check.due("text of leaf -1", x.text(-1, 0, 0), -1);
    int[] could = {1, 2, 1, 2};
    long[][] begins = {{2, 0, 2, 0}, {2, 0, 2, 0}, {0, 2, 0, 3}, {1, 0, 0, 0}, {0, 0, 0, 0}};
    for (int p = 0; p < 4; p++) {
      Check.due("could(0, " + p + ")", x.could(0, p), could[p]);
      for (int w = 0; w < 5; w++) {
        Check.due("begins(0, " + w + ", " + p + ")", x.begins(0, w, p), begins[w][p]);
      }
    }
    Check.due("texts of leaf 1", x.texts(1), 0);
    Check.due("could of no text", x.could(1, 0), 0);
    Check.due("text of no text", x.text(1, 0, 0), -1);
    Check.due("begins of no text", x.begins(1, 4, 0), 0);
    Check.due("texts(2)", x.texts(2), -1);
    Check.due("texts(-1)", x.texts(-1), -1);
    Check.due("could(2, 0)", x.could(2, 0), -1);
    Check.due("could(0, 4)", x.could(0, 4), -1);
    Check.due("could(0, -1)", x.could(0, -1), -1);
    Check.due("begins(2, 0, 0)", x.begins(2, 0, 0), -1);
    Check.due("begins(0, 5, 0)", x.begins(0, 5, 0), -1);
    Check.due("begins(0, -1, 0)", x.begins(0, -1, 0), -1);
    Check.due("begins(0, 0, 4)", x.begins(0, 0, 4), -1);
    Check.due("begins(0, 0, -1)", x.begins(0, 0, -1), -1);
  }

  private static void ghosts() {
    WetInk x = Check.told("ink i eyes 3;leaf abc ink i;leaf xyzw ink i;word ab;word cd;word abcd;word z;word e;");
    Check.due("as it stands", x.texts(0), 0);
    x.wipe(0, 2, 2);
    Check.due("a blank is any letter", x.texts(0), 2);
    row(x, 0, 0, 0, 3);
    row(x, 0, 1, 0, 4);
    Check.due("which letters", x.could(0, 2), (1 << 25) + (1 << 4));
    Check.due("press", x.press(1, 0), 3);
    Check.due("a ghost", x.sign(0, 2, 3), 24);
    Check.due("no word has that letter", x.texts(0), 0);
    x.write(1, 0, 5, 0);
    x.press(1, 0);
    Check.due("the latest ghost", x.texts(0), 1);
    row(x, 0, 0, 0, 4);
    Check.due("the ghosts beside signs do not count", x.could(0, 0), 1);
    x.write(0, 2, 26, 0);
    Check.due("the sign counts over the ghost", x.texts(0), 1);
    row(x, 0, 0, 0, 3);
  }

  private static void none() {
    WetInk x = Check.told("ink i eyes 3;leaf abc ink i;");
    Check.due("texts without words", x.texts(0), 0);
    Check.due("text without words", x.text(0, 0, 0), -1);
    Check.due("could without words", x.could(0, 0), 0);
    Check.due("begins without words", x.begins(0, 0, 0), -1);
  }

  private static void lettersAlone() {
    WetInk x = Check.told("ink i eyes 3;leaf abc ink i;leaf bb ink i;word ab;word c;word b;");
    Check.due("could, asked first", x.could(0, 1), 2);
    Check.due("could of the other leaf", x.could(1, 1), 2);
    x.wipe(1, 0, 1);
    Check.due("could behind a wipe", x.could(1, 0), 7);
    Check.due("could of the last place", x.could(1, 1), 6);
    x = Check.told("ink i eyes 3;leaf abc ink i;leaf bb ink i;word ab;word c;word b;");
    Check.due("begins, asked first", x.begins(0, 1, 2), 1);
    Check.due("begins of the other leaf", x.begins(1, 2, 1), 1);
  }

  private static void many() {
    WetInk x = Check.told("ink i eyes 3;leaf " + Check.times("a", 64) + " ink i;word b;word a;word cc;");
    Check.due("one text alone", x.texts(0), 1);
    x.wipe(0, 0, 63);
    Check.due("as many as are told", x.texts(0), MANY);
    Check.due("the last one that is told", x.text(0, MANY - 1, 0), 0);
    Check.due("the first one that is not", x.text(0, MANY, 0), -1);
    Check.due("nor that", x.text(0, Long.MAX_VALUE, 0), -1);
    row(x, 0, 0, new int[64]);
    int[] second = new int[64];
    second[63] = 1;
    row(x, 0, 1, second);
    int[] fifth = new int[63];
    fifth[62] = 2;
    row(x, 0, 4, fifth);
    Check.due("begins in the midst", x.begins(0, 2, 30), MANY);
    Check.due("begins at the end", x.begins(0, 2, 62), MANY);
    Check.due("begins behind the end", x.begins(0, 2, 63), 0);
    Check.due("could", x.could(0, 63), 7);
  }

  private static void edgeOfMany() {
    // ten words of one letter: 15 blanks are just as many as are told, 14 a tenth of that
    String words = "";
    for (char c = 'a'; c <= 'j'; c++) {
      words += "word " + c + ";";
    }
    WetInk x = Check.told("ink i eyes 3;leaf " + Check.times("z", 15) + " ink i;leaf " + Check.times("z", 14)
        + " ink i;leaf " + Check.times("z", 16) + " ink i;" + words);
    x.wipe(0, 0, 14);
    x.wipe(1, 0, 13);
    x.wipe(2, 0, 15);
    Check.due("15 blanks", x.texts(0), MANY);
    Check.due("14 blanks", x.texts(1), MANY / 10);
    Check.due("16 blanks", x.texts(2), MANY);
    Check.due("begins of 15", x.begins(0, 3, 7), MANY / 10);
    Check.due("begins of 16", x.begins(2, 3, 7), MANY);
    Check.due("begins of 16 at the end", x.begins(2, 3, 15), MANY);
    row(x, 0, MANY - 1, 9, 9, 9, 9, 9, 9, 9, 9, 9, 9, 9, 9, 9, 9, 9);
    row(x, 0, MANY);
    row(x, 0, 123456789012345L, 1, 2, 3, 4, 5, 6, 7, 8, 9, 0, 1, 2, 3, 4, 5);
    row(x, 1, MANY / 10 - 1, 9, 9, 9, 9, 9, 9, 9, 9, 9, 9, 9, 9, 9, 9);
    row(x, 1, MANY / 10);
    row(x, 2, MANY - 1, 0, 9, 9, 9, 9, 9, 9, 9, 9, 9, 9, 9, 9, 9, 9, 9);
    row(x, 2, MANY);
  }
}
