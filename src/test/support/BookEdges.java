import java.util.ArrayList;
import java.util.List;

/** Terms I and promises 1 to 7: each sentence that names an edge. */
final class BookEdges {
  private static final String[] OWN = {"ink", "eyes", "leaf", "reader", "pace", "skips", "pay", "when", "word", "guard", "or",
      "and", "not", "all", "place", "letter", "needs", "min", "max"};
  private static final String FULL = "ink i eyes 2 ; leaf abc ink i ; reader r pace 3 skips 2 pay 4 ; "
      + "eyes 1 + 2 * 3 - min ( place , 4 ) / max ( leaf , needs ) when not [ letter < 2 or all ] and ( 1 ) > 2 ; "
      + "word w ; guard 5 4 ;";

  private BookEdges() {
  }

  static void run() {
    statements();
    inks();
    leaves();
    readers();
    rules();
    words();
    guards();
    names();
    ownWords();
    spells();
    grammar();
    tests();
    digits();
    divisions();
    limits();
    parts();
    blanks();
    sideBySide();
    firstAlong();
    noSuchText();
    wholeWords();
    endsTooSoon();
    wrongNumbers();
    wrongNames();
    openAtOnce();
    oneTooMany();
    newObject();
    feed();
    end();
    book();
    fault();
    has();
    letter();
  }

  /** The number between the two texts may be low .. high; just below and above it is a fault of the second kind. */
  private static void range(String ahead, String behind, int low, int high) {
    Check.told(ahead + low + behind);
    Check.told(ahead + high + behind);
    Check.told(ahead + String.format("%04d", high) + behind);
    if (low > 0) {
      Check.faulty(ahead + (low - 1) + behind, 2, ahead.length());
    }
    Check.faulty(ahead + (high + 1) + behind, 2, ahead.length());
    Check.faulty(ahead + String.format("%04d", high + 1) + behind, 2, ahead.length());
    Check.faulty(ahead + "9999" + behind, 2, ahead.length());
  }

  /** So many of a kind can be told; the next one is a fault at its first byte. */
  private static void most(String ahead, String[] rows, int most) {
    StringBuilder text = new StringBuilder(ahead);
    for (int i = 0; i < most; i++) {
      text.append(rows[i % rows.length]);
    }
    Check.told(text.toString());
    Check.faulty(text + "\n " + rows[most % rows.length], 5, text.length() + 2);
  }

  private static String[] each(String ahead, String behind) {
    String[] rows = new String[26];
    for (int i = 0; i < 26; i++) {
      rows[i] = ahead + (char) ('a' + i) + behind;
    }
    return rows;
  }

  private static void statements() {
    Check.of("I: A BOOK is a text: { STATEMENT ; } (80 at most)");
    Check.told("");
    Check.told(" ");
    Check.told("guard 1 0;");
    Check.told(Check.times("guard 1 0;", 79));
    Check.told(Check.times("guard 1 0;", 80));
    Check.told(Check.times("guard 1 0;", 80) + Check.times(" \n", 400));
    Check.faulty(Check.times("guard 1 0;", 81), 5, 800);
    Check.faulty("guard 1 0", 1, 9);
    Check.faulty("guard 1 0;;", 1, 10);
  }

  private static void inks() {
    Check.of("I: ink NAME eyes N (1 .. 20; 6 INKS)");
    range("ink i eyes ", ";", 1, 20);
    most("", each("ink ", " eyes 1;"), 6);
    WetInk x = Check.told("ink i eyes 1;ink j eyes 20;leaf a ink i;leaf a ink j;");
    Check.due("the fewest eyes", x.sign(0, 0, 1), 1);
    Check.due("the most eyes", x.sign(1, 0, 1), 20);
  }

  private static void leaves() {
    Check.of("I: leaf SPELL ink NAME (1 to 64 letters, an INK; 8 LEAVES)");
    String ink = "ink i eyes 1;";
    Check.faulty(ink + "leaf  ink i;", 1, ink.length() + 10);
    Check.due("one place", Check.told(ink + "leaf a ink i;").leaf(0, 0), 1);
    Check.due("63 places", Check.told(ink + "leaf " + Check.times("a", 63) + " ink i;").leaf(0, 0), 63);
    Check.due("64 places", Check.told(ink + "leaf " + Check.times("a", 64) + " ink i;").leaf(0, 0), 64);
    Check.faulty(ink + "leaf " + Check.times("a", 65) + " ink i;", 1, ink.length() + 5 + 64);
    Check.faulty(ink + "reader r pace 1 skips 0 pay 0;leaf a ink r;", 3, ink.length() + 41);
    most(ink, new String[] {"leaf ab ink i;"}, 8);
    WetInk x = Check.told(ink + Check.times("leaf " + Check.times("z", 64) + " ink i;", 8));
    Check.due("the last place of the last leaf", x.sign(7, 63, 0), 26);
    Check.due("all signs", x.has(6), 512);
  }

  private static void readers() {
    Check.of("I: reader NAME pace N skips N pay N (1 .. 64, 0 or 2 .. 9, 0 .. 99; 4 READERS)");
    range("reader r pace ", " skips 0 pay 0;", 1, 64);
    range("reader r pace 1 skips ", " pay 0;", 0, 9);
    range("reader r pace 1 skips ", " pay 0;", 2, 9);
    Check.faulty("reader r pace 1 skips 1 pay 0;", 2, 22);
    Check.faulty("reader r pace 1 skips 0001 pay 0;", 2, 22);
    range("reader r pace 1 skips 0 pay ", ";", 0, 99);
    most("", each("reader ", " pace 1 skips 0 pay 0;"), 4);
  }

  private static void rules() {
    Check.of("I: eyes SUM when TEST (8 RULES)");
    most("", new String[] {"eyes 1 when all;"}, 8);
    WetInk x = Check.told("ink i eyes 1;leaf a ink i;" + Check.times("eyes 5 when not all;", 7) + "eyes 6 when all;");
    Check.due("the eighth rule counts", x.sign(0, 0, 1), 6);
  }

  private static void words() {
    Check.of("I: word SPELL (1 to 12 letters, unlike ones; 16 WORDS)");
    Check.faulty("word ;", 1, 5);
    Check.told("word a;");
    Check.told("word abcdefghijkl;");
    Check.faulty("word abcdefghijklm;", 1, 17);
    Check.told("word ab;word ba;word abb;word a;word b;");
    Check.faulty("word ab;word ab;", 3, 13);
    Check.told("word aaaaaaaaaaaa;word aaaaaaaaaaab;word baaaaaaaaaaa;");
    Check.faulty("word aaaaaaaaaaab;word aaaaaaaaaaab;", 3, 23);
    most("", each("word ", ";"), 16);
  }

  private static void guards() {
    Check.of("I: guard N N (every so many HOURS, 1 .. 99, from an HOUR 0 .. 98 below that on; the last one counts; never without)");
    range("guard ", " 0;", 1, 99);
    range("guard 1 ", ";", 0, 0);
    range("guard 2 ", ";", 0, 1);
    range("guard 98 ", ";", 0, 97);
    range("guard 99 ", ";", 0, 98);
    rounds(Check.told("guard 1 0;"), 1, 0);
    rounds(Check.told("guard 2 1;"), 2, 1);
    rounds(Check.told("guard 99 0;"), 99, 0);
    rounds(Check.told("guard 99 98;"), 99, 98);
    rounds(Check.told("guard 1 0;guard 99 98;guard 7 2;"), 7, 2);
    WetInk x = Check.told("word a;");
    for (int hour = 0; hour <= 9999; hour++) {
      Check.due("never without, hour " + hour, x.guard(hour), 0);
    }
  }

  private static void rounds(WetInk x, int every, int from) {
    int next = from;
    for (int hour = 0; hour <= 9999; hour++) {
      Check.due("guard " + every + " " + from + " in hour " + hour, x.guard(hour), hour == next ? 1 : 0);
      next = hour == next ? next + every : next;
    }
  }

  private static void names() {
    Check.of("I: NAMES: 1 to 6 letters, no OWN WORD, unlike ones (INKS, READERS), told ahead of where they are asked.");
    Check.told("ink a eyes 1;ink abcdef eyes 1;ink abcdeg eyes 1;reader zzzzzz pace 1 skips 0 pay 0;");
    Check.faulty("ink  eyes 1;", 1, 5);
    Check.faulty("ink ; eyes 1;", 1, 4);
    Check.faulty("ink abcdefg eyes 1;", 1, 10);
    Check.faulty("reader abcdefg pace 1 skips 0 pay 0;", 1, 13);
    Check.faulty("ink a eyes 1;ink b eyes 1;ink a eyes 2;", 3, 30);
    Check.faulty("ink abcdef eyes 1;ink abcdef eyes 2;", 3, 22);
    Check.faulty("ink a eyes 1;reader a pace 1 skips 0 pay 0;", 3, 20);
    Check.faulty("reader a pace 1 skips 0 pay 0;ink a eyes 1;", 3, 34);
    Check.faulty("leaf b ink a;ink a eyes 1;", 3, 11);
    Check.faulty("ink a eyes 1;leaf b ink aa;", 3, 24);
    Check.faulty("ink aa eyes 1;leaf b ink a;", 3, 25);
    Check.faulty("ink ab eyes 1;leaf b ink ba;", 3, 25);
  }

  private static void ownWords() {
    Check.of("I: OWN WORDS: ink, eyes, leaf, reader, pace, skips, pay, when, word, guard, or, and, not, all, place, letter, "
        + "needs, min, max.");
    for (String own : OWN) {
      Check.faulty("ink " + own + " eyes 1;", 1, 4);
      Check.faulty("reader " + own + " pace 1 skips 0 pay 0;", 1, 7);
      Check.faulty("ink i eyes 1;leaf a ink " + own + ";", 1, 24);
      Check.told("ink i eyes 1;leaf " + own + " ink i;word " + own + ";");
      Check.told("ink " + own.substring(1) + " eyes 1;");
      if (own.length() < 6) {
        Check.told("ink " + own + "x eyes 1;");
        Check.told("reader x" + own + " pace 1 skips 0 pay 0;");
      }
    }
  }

  private static void spells() {
    Check.of("I: A SPELL is a row of letters of any sort.");
    WetInk x = Check.told("ink i eyes 1;leaf abcdefghijklmnopqrstuvwxyz ink i;word abcdefghijkl;word mnopqrstuvwx;word yz;");
    for (int place = 0; place < 26; place++) {
      Check.due("letter of place " + place, x.sign(0, place, 0), place + 1);
      Check.due("letter of a word, " + place, x.letter(2, place / 12, place % 12), place + 1);
    }
    for (int sign = 0; sign < 256; sign++) {
      String text = "word a" + (char) sign + "b;";
      if (sign >= 'a' && sign <= 'z') {
        Check.told(text);
      } else {
        Check.faulty(text, 1, sign == 10 || sign == 32 || sign == ';' ? 7 : 6);
      }
    }
  }

  private static void grammar() {
    Check.of("I: TEST: BOTH { or BOTH }. BOTH: FACT { and FACT }. FACT: not FACT; [ TEST ] ; all; SUM SIGN SUM");
    Check.told("eyes 1 when all" + Check.times(" or all", 190) + ";");
    Check.told("eyes 1 when all" + Check.times(" and all", 170) + ";");
    Check.told("eyes 1 when 1" + Check.times("+1", 390) + "=1" + Check.times("*1", 390) + ";");
    Check.faulty("eyes 1 when or all;", 1, 12);
    Check.faulty("eyes 1 when all or;", 1, 18);
    Check.faulty("eyes 1 when and;", 1, 12);
    Check.faulty("eyes 1 when all and or all;", 1, 20);
    Check.faulty("eyes 1 when [];", 1, 13);
    Check.faulty("eyes 1 when not;", 1, 15);
    Check.faulty("eyes 1 when 1<;", 1, 14);
    Check.faulty("eyes 1 when <1;", 1, 12);
    Check.faulty("eyes 1 when 1 2;", 1, 14);
    Check.faulty("eyes 1 when 1=1=1;", 1, 15);
    Check.faulty("eyes 1 when [1=1;", 1, 16);
    Check.faulty("eyes () when all;", 1, 6);
    Check.faulty("eyes min(1) when all;", 1, 10);
    Check.faulty("eyes min(1,) when all;", 1, 11);
    Check.faulty("eyes max(1,2,3) when all;", 1, 12);
    Check.faulty("eyes max 1,2 when all;", 1, 9);
    for (String own : new String[] {"min", "max"}) {
      for (String mark : new String[] {"*", "/", "+", "-", ",", ")", "[", ";", "<", "1", "place", "when", own}) {
        Check.faulty("eyes " + own + " " + mark + " 2 when all;", 1, 9);
        Check.faulty("eyes 1 when " + own + " " + mark + " 2;", 1, 16);
      }
    }
    Check.faulty("eyes 1* when all;", 1, 8);
    Check.faulty("eyes +1 when all;", 1, 5);
  }

  private static void holds(String test, boolean want) {
    WetInk x = Check.told("ink i eyes 5;leaf b ink i;leaf bcdz ink i;eyes 7 when " + test + ";");
    Check.due(test, x.sign(1, 3, 1), want ? 7 : 5);
  }

  private static void tests() {
    Check.of("I: FACT: not FACT; [ TEST ] ; all; SUM SIGN SUM, SIGN < or > or = .");
    String[] facts = {"not all", "all"};
    for (int a = 0; a < 2; a++) {
      holds(facts[a], a == 1);
      holds("not " + facts[a], a == 0);
      holds("not not " + facts[a], a == 1);
      holds("[" + facts[a] + "]", a == 1);
      for (int b = 0; b < 2; b++) {
        holds(facts[a] + " or " + facts[b], a + b > 0);
        holds(facts[a] + " and " + facts[b], a + b > 1);
        holds("not [" + facts[a] + " or " + facts[b] + "]", a + b == 0);
        for (int c = 0; c < 2; c++) {
          holds(facts[a] + " or " + facts[b] + " and " + facts[c], a == 1 || b + c == 2);
          holds(facts[a] + " and " + facts[b] + " or " + facts[c], c == 1 || a + b == 2);
          holds("[" + facts[a] + " or " + facts[b] + "] and " + facts[c], a + b > 0 && c == 1);
        }
      }
    }
    for (int n = 2; n <= 4; n++) {
      holds("place<" + n, 3 < n);
      holds("place>" + n, 3 > n);
      holds("place=" + n, 3 == n);
      holds("not place=" + n, 3 != n);
      eyes("min(place," + n + ")", Math.min(3, n));
      eyes("max(" + n + ",place)", Math.max(3, n));
    }
    holds("0-1<0", true);
    holds("0-1>0-2", true);
    holds("9999*9999=9999*9998", true);
  }

  private static void digits() {
    Check.of("I: PART: N (1 to 4 digits)");
    Check.told("eyes 0 when 9999>0000;");
    Check.faulty("eyes 00000 when all;", 1, 9);
    Check.faulty("eyes 1 when all and 99999=1;", 1, 24);
    eyes("0007", 7);
    eyes("9999-9900", 99);
  }

  /** The eyes of a z in place 3 of leaf 1, whose ink needs 5. */
  private static void eyes(String sum, int want) {
    WetInk x = Check.told("ink i eyes 5;leaf b ink i;leaf bcdz ink i;eyes " + sum + " when all;");
    Check.due("eyes " + sum, x.sign(1, 3, 1), want);
  }

  private static void divisions() {
    Check.of("I: All from the left on; / gives the greatest whole number not above, by 0 it gives 0");
    eyes("20-5-4", 11);
    eyes("48/4/3", 4);
    eyes("7/2*2", 6);
    eyes("2*7/4", 3);
    eyes("10+7/7", 11);
    eyes("10+6/7", 10);
    eyes("10+(0-1)/7", 9);
    eyes("10+(0-7)/7", 9);
    eyes("10+(0-8)/7", 8);
    eyes("10+1/(0-7)", 9);
    eyes("10+(0-8)/(0-7)", 11);
    eyes("10+0/(0-7)", 10);
    eyes("10+5/0", 10);
    eyes("10+(0-5)/0", 10);
    eyes("10+0/0", 10);
    eyes("10+5/(place-3)*2", 10);
  }

  private static void limits() {
    Check.of("I: each sum, difference, product above 10 to the 6 is that, below -10 to the 6 likewise");
    eyes("1000*1000-9999*100-98", 2);
    eyes("1000*1000-1-9999*100-97", 2);
    eyes("1000*1000+1-9999*100-98", 2);
    eyes("1001*1000-9999*100-98", 2);
    eyes("9999*9999*9999-9999*100-98", 2);
    eyes("(0-1000)*1000+9999*100+102", 2);
    eyes("(0-1000)*1000+1+9999*100+101", 2);
    eyes("(0-1000)*1000-1+9999*100+102", 2);
    eyes("(0-1001)*1000+9999*100+102", 2);
    eyes("(0-9999)*9999*9999+9999*100+102", 2);
    eyes("(0-9999)*9999*(0-9999)/9999/5", 20);
    eyes("(9999*9999+9999*9999)/9999/5", 20);
  }

  private static void parts() {
    Check.of("I: (place of the sign on its leaf, the leaf's number, letter 1 .. 26, needs: the eyes of its ink.)");
    eyes("place", 3);
    eyes("leaf", 1);
    eyes("letter", 26);
    eyes("needs", 5);
    WetInk x = Check.told("ink i eyes 5;ink j eyes 9;leaf a ink i;eyes place+leaf+letter+needs when all;");
    Check.due("the first place of the first leaf", x.sign(0, 0, 1), 6);
    Check.due("written with another ink", x.write(0, 0, 26, 1), 35);
  }

  private static void blanks() {
    Check.of("I: Blanks (10, 32) are where one likes");
    for (int sign = 0; sign < 256; sign++) {
      char c = (char) sign;
      boolean blank = sign == 10 || sign == 32;
      between("ink" + c + "i eyes 1;", blank, c >= 'a' && c <= 'z' ? 0 : 3);
      between("ink i eyes 1;" + c, blank, 13);
      between(c + "ink i eyes 1;", blank, 0);
    }
    int[] wide = Check.stateOf(Check.told(FULL.replace(" ", " \n\n ").replace(";", "\n;")));
    int[] narrow = Check.stateOf(Check.told(FULL.replaceAll(" *([^a-z0-9 ]) *", "$1")));
    Check.same("with and without blanks", wide, narrow);
  }

  private static void between(String text, boolean good, int place) {
    if (good) {
      Check.told(text);
    } else {
      Check.faulty(text, 1, place);
    }
  }

  private static void sideBySide() {
    Check.of("I: (words and numbers side by side need one)");
    Check.faulty("inki eyes 1;", 1, 0);
    Check.faulty("ink ieyes 1;", 1, 10);
    Check.faulty("ink i eyes1;", 1, 10);
    Check.faulty("reader r pace 1skips 0 pay 0;", 1, 15);
    Check.faulty("reader r pace 1 skips0 pay 0;", 1, 21);
    Check.faulty("guard5 4;", 1, 5);
    Check.faulty("guard 54;", 1, 8);
    Check.faulty("eyes 1when all;", 1, 6);
    Check.faulty("eyes placewhen all;", 1, 5);
    Check.faulty("eyes 1 when 1=1or all;", 1, 15);
    Check.faulty("eyes 1 when notall;", 1, 12);
    Check.faulty("eyes 1 when allor all;", 1, 12);
    Check.told("eyes(1)when[all]or[all]and not[all]or(1)=min(1,2);");
  }

  private static void firstAlong() {
    Check.of("I: FAULTS, the first along the text");
    String[] bad = {"%;", "guard 0 0;", "leaf a ink q;", "eyes (((((((1))))))) when all;"};
    int[] kinds = {1, 2, 3, 4};
    int[] places = {0, 6, 11, 11};
    for (int i = 0; i < bad.length; i++) {
      for (int k = 0; k < bad.length; k++) {
        Check.faulty("word w;" + bad[i] + bad[k], kinds[i], 7 + places[i]);
      }
    }
    String six = String.join("", List.of(each("ink ", " eyes 1;")).subList(0, 6));
    Check.faulty(six + "ink a eyes 0;", 5, six.length());
    Check.faulty("%" + six + "ink g eyes 1;", 1, 0);
    Check.faulty("ink a eyes 1;ink a eyes 0;", 3, 17);
    Check.faulty("ink a eyes 0;ink a eyes 1;", 2, 11);
    Check.faulty("ink a eyes 00000", 1, 15);
    Check.faulty("ink a eyes 1;ink a2", 3, 17);
    Check.faulty("guard 0x", 2, 6);
  }

  private static List<String> tokens() {
    return new ArrayList<>(List.of(FULL.split(" ")));
  }

  private static String before(List<String> tokens, int k) {
    return k == 0 ? "" : String.join(" ", tokens.subList(0, k)) + " ";
  }

  private static void noSuchText() {
    Check.of("I: 1 the first byte with which no such text goes on");
    List<String> tokens = tokens();
    for (int k = 0; k <= tokens.size(); k++) {
      String ahead = before(tokens, k);
      String behind = k < tokens.size() ? String.join(" ", tokens.subList(k + 1, tokens.size())) : "";
      for (String wrong : new String[] {"%", "A", "" + (char) 0, "" + (char) 255, "" + (char) 128, "\t", "_", "`", "{"}) {
        Check.faulty(ahead + wrong + behind, 1, ahead.length());
        Check.faulty(ahead + wrong, 1, ahead.length());
      }
    }
  }

  private static void wholeWords() {
    Check.of("I: words and numbers whole, at their first byte; where a NAME is asked, an OWN WORD so, a 7th letter at itself; "
        + "of a SPELL a letter too many at itself; a 5th digit at itself");
    List<String> tokens = tokens();
    for (int k = 0; k < tokens.size(); k++) {
      String ahead = before(tokens, k);
      String token = tokens.get(k);
      boolean asksSpell = k == 6 || k == tokens.size() - 6;
      boolean asksName = k == 1 || k == 8 || k == 11;
      if (token.matches("[a-z]+") && !asksSpell && !asksName) {
        Check.faulty(ahead + token + "x ", 1, ahead.length());
        Check.faulty(ahead + "x" + token + " ", 1, ahead.length());
        Check.faulty(ahead + token.substring(0, token.length() - 1) + " ", 1, ahead.length());
      }
      if (asksName) {
        Check.faulty(ahead + "letter ", 1, ahead.length());
        Check.faulty(ahead + "letters ", 1, ahead.length() + 6);
        Check.faulty(ahead + "abcdefghij ", 1, ahead.length() + 6);
      }
      if (token.matches("[0-9]+")) {
        Check.faulty(ahead + "00001 ", 1, ahead.length() + 4);
        Check.faulty(ahead + "123456 ", 1, ahead.length() + 4);
      } else {
        Check.faulty(ahead + (isPart(tokens, k) ? "12345 " : "1 "), 1, ahead.length() + (isPart(tokens, k) ? 4 : 0));
      }
    }
    Check.faulty("word " + Check.times("w", 40) + ";", 1, 17);
    Check.faulty("leaf " + Check.times("w", 100), 1, 69);
  }

  /** Whether a number may stand where that token of the full book stands. */
  private static boolean isPart(List<String> tokens, int k) {
    String token = tokens.get(k);
    boolean inRule = k > tokens.indexOf("4") + 2 && k < tokens.lastIndexOf("word");
    return inRule && List.of("min", "max", "place", "needs", "letter", "leaf", "not", "[", "all").contains(token)
        || inRule && token.equals("(") && tokens.get(k - 1).equals("and");
  }

  private static void endsTooSoon() {
    Check.of("I: at the text's length, if it ends too soon");
    List<String> tokens = tokens();
    for (int k = 1; k <= tokens.size(); k++) {
      String ahead = before(tokens, k);
      if (tokens.get(k - 1).equals(";")) {
        Check.told(ahead);
      } else {
        Check.faulty(ahead.trim(), 1, ahead.length() - 1);
        Check.faulty(ahead, 1, ahead.length());
        Check.faulty(ahead + "\n\n ", 1, ahead.length() + 3);
      }
    }
    String whole = "guard 1 0;" + Check.times(" ", 1587) + "ink";
    Check.faulty(whole, 1, 1600);
  }

  private static void wrongNumbers() {
    Check.of("I: 2 a number (of 1 to 4 digits) that can't be, at it");
    Check.faulty("ink i eyes   0;", 2, 13);
    Check.faulty("ink i eyes 0000;", 2, 11);
    Check.faulty("ink i eyes 00000;", 1, 15);
    Check.faulty("ink i eyes 0021", 2, 11);
    Check.faulty("ink i eyes 21", 2, 11);
    Check.faulty("guard 5 5", 2, 8);
    Check.faulty("guard 5 0005", 2, 8);
    Check.faulty("guard 5 00004", 1, 12);
    Check.told("guard 5 0004;");
  }

  private static void wrongNames() {
    Check.of("I: 3 a NAME to be given that is there already, one that is none of what is asked, a word that is there already, at it");
    Check.faulty("ink i eyes 1;ink \n i", 3, 19);
    Check.faulty("ink i eyes 1;reader  i", 3, 21);
    Check.faulty("leaf a ink  i", 3, 12);
    Check.faulty("reader r pace 1 skips 0 pay 0;leaf a ink r", 3, 41);
    Check.faulty("word a;word  a", 3, 13);
    Check.told("ink i eyes 1;word i;reader r pace 1 skips 0 pay 0;word r;leaf i ink i;leaf i ink i;");
  }

  private static void openAtOnce() {
    Check.of("I: 4 the 7th ( [ not that is open at once (not until its FACT ends), at it");
    String[] opening = {"(", "min(", "max(1,"};
    String[] closing = {")", ",1)", ")"};
    for (int i = 0; i < opening.length; i++) {
      Check.told("eyes " + Check.times(opening[i], 6) + "1" + Check.times(closing[i], 6) + " when all;");
      int place = 5 + 6 * opening[i].length() + opening[i].indexOf('(');
      Check.faulty("eyes " + Check.times(opening[i], 7) + "1" + Check.times(closing[i], 7) + " when all;", 4, place);
    }
    Check.told("eyes 1 when " + Check.times("[", 6) + "all" + Check.times("]", 6) + ";");
    Check.faulty("eyes 1 when " + Check.times("[", 7) + "all" + Check.times("]", 7) + ";", 4, 18);
    Check.told("eyes 1 when " + Check.times("not ", 6) + "all;");
    Check.faulty("eyes 1 when " + Check.times("not ", 7) + "all;", 4, 36);
    Check.told("eyes 1 when " + Check.times("[not ", 3) + "all]]];");
    Check.faulty("eyes 1 when " + Check.times("[not ", 3) + "(1)=1]]];", 4, 27);
    Check.told("eyes 1 when " + Check.times("[not ", 2) + "[(1)=1 and 1=(1)]]];");
    Check.faulty("eyes 1 when " + Check.times("not ", 6) + "1=(1);", 4, 38);
    Check.told("eyes 1 when " + Check.times("not ", 6) + "1=1 and (1)=1;");
    Check.told("eyes 1 when " + Check.times("not ", 6) + "all or not all;");
    Check.told("eyes 1 when [" + Check.times("not ", 5) + "all] and " + Check.times("[", 6) + "all" + Check.times("]", 6) + ";");
    Check.told("eyes 1 when " + Check.times("not [[[[[all]]]]] or ", 20) + "all;");
    Check.told("eyes " + Check.times("((((((1))))))+", 30) + "1 when all;");
    Check.told(Check.times("eyes ((((((1)))))) when not not not not not not all;", 8));
  }

  private static void oneTooMany() {
    Check.of("I: 5 one too many of a kind, an 81st STATEMENT (whatever stands there), at its first byte.");
    String six = String.join("", List.of(each("ink ", " eyes 1;")).subList(0, 6));
    Check.faulty(six + "ink", 5, 78);
    Check.faulty(six + "ink %", 5, 78);
    Check.faulty(six + "ink a eyes 0;", 5, 78);
    Check.faulty(six + "inks", 1, 78);
    Check.faulty(six + "in", 1, 78);
    String eighty = Check.times("guard 1 0;", 80);
    for (String next : new String[] {"guard 1 0;", "ink", "%", ";", "7", "77777", "x", "abcdefghij", "(", "\t", "" + (char) 255}) {
      Check.faulty(eighty + next, 5, 800);
      Check.faulty(eighty + " \n" + next, 5, 802);
    }
    Check.faulty(Check.times("guard 1 0;", 79) + "%", 1, 790);
    Check.faulty(six + Check.times("guard 1 0;", 74) + "ink g eyes 1;", 5, 818);
  }

  private static void newObject() {
    Check.of("Promise 1, WetInk(): No LEAVES, no READERS.");
    WetInk x = new WetInk();
    for (int what = 0; what <= 10; what++) {
      Check.due("has(" + what + ")", x.has(what), 0);
    }
    Check.due("leaf(0, 0)", x.leaf(0, 0), -1);
    Check.due("sign(0, 0, 0)", x.sign(0, 0, 0), -1);
    Check.due("reader(0, 0)", x.reader(0, 0), -1);
    Check.due("texts(0)", x.texts(0), -1);
    Check.due("hours(1)", x.hours(1), 0);
    Check.due("run(1)", x.run(1), -1);
    Check.due("guard(0)", x.guard(0), 0);
  }

  private static void feed() {
    Check.of("Promise 2, feed: Twenty bytes come behind those on the tape, of each number the highest first: how many there "
        + "are; NONE, doing nothing, if there would be more than 1600.");
    WetInk x = new WetInk();
    // "word" " abc" "defg" "hijk" "l;  ", its first and last bytes apart from those between them
    Check.due("feed", x.feed(0x776f7264, 0x20616263, 0x64656667, 0x68696a6b, 0x6c3b2020), 20);
    Check.due("book", x.book(), 1);
    for (int k = 0; k < 12; k++) {
      Check.due("letter " + k, x.letter(2, 0, k), k + 1);
    }
    Check.due("numbers below 0", x.feed(0x776f7264, 0x20613b20, -1, -1, -1), 20);
    Check.due("are bytes, too", x.book(), -1);
    Check.due("the first of them", x.fault(1), 8);
    for (int n = 20; n <= 1600; n += 20) {
      Check.due("feed to " + n, x.feed(0x20202020, 0x20202020, 0x20202020, 0x20202020, 0x20202020), n);
    }
    Check.due("feed to 1620", x.feed(-1, -1, -1, -1, -1), -1);
    Check.due("1601 bytes are not there", x.end(1601), false);
    Check.due("end(1599)", x.end(1599), true);
    Check.due("feed to 1619", x.feed(-1, -1, -1, -1, -1), -1);
    Check.due("end(1581)", x.end(1581), true);
    Check.due("feed to 1601", x.feed(-1, -1, -1, -1, -1), -1);
    Check.due("1582 bytes are not there", x.end(1582), false);
    Check.due("all of it is blank", x.book(), 0);
    for (int n = 20; n <= 1580; n += 20) {
      x.feed(0x20202020, 0x20202020, 0x20202020, 0x20202020, 0x20202020);
    }
    Check.due("end(1580)", x.end(1580), true);
    Check.due("feed to 1600 just fits", x.feed(0x77, 0x6f726420, 0x613b776f, 0x72642062, 0x3b202020), 1600);
    Check.due("its zero bytes count", x.book(), -1);
    Check.due("at the first of them", x.fault(1), 1580);
  }

  private static void end() {
    Check.of("Promise 3, end: The tape has its first n bytes alone: true; false, doing nothing, if it has not so many, "
        + "or n is below 0.");
    WetInk x = new WetInk();
    Check.due("end(0) of an empty tape", x.end(0), true);
    Check.due("end(1) of an empty tape", x.end(1), false);
    Check.put(x, Check.bytesOf("word a;word b;word a"), 0);
    Check.due("end(21)", x.end(21), false);
    Check.due("end(-1)", x.end(-1), false);
    Check.due("the least number", x.end(Integer.MIN_VALUE), false);
    Check.due("the greatest number", x.end(Integer.MAX_VALUE), false);
    Check.due("end(20)", x.end(20), true);
    Check.due("end(14)", x.end(14), true);
    Check.due("end(15)", x.end(15), false);
    Check.due("book of 14 bytes", x.book(), 2);
    Check.put(x, Check.bytesOf("word a;"), 0);
    Check.due("end(0)", x.end(0), true);
    Check.due("feed starts anew", x.feed(0x20202020, 0x20202020, 0x20202020, 0x20202020, 0x20202020), 20);
    Check.due("book of blanks", x.book(), 0);
    Check.put(x, Check.bytesOf("word abc"), 0);
    Check.due("end(7)", x.end(7), true);
    Check.put(x, Check.bytesOf("x;"), 7);
    Check.due("what comes behind goes on there", x.book(), 1);
    Check.due("its last letter", x.letter(2, 0, 2), 24);
  }

  /** An object of which everything can be asked has an answer of its own. */
  private static WetInk lively() {
    WetInk x = Check.told("ink i eyes 3;leaf abcde ink i;leaf xyz ink i;reader r pace 2 skips 0 pay 5;reader s pace 1 skips 2 pay 6;"
        + "word ab;word c;eyes 2 when letter=3;guard 3 1;");
    x.read(0, 4, 4, 3);
    x.wipe(0, 1, 1);
    x.press(1, 0);
    x.seat(1, 1);
    x.hours(2);
    x.write(0, 0, 9, 0);
    return x;
  }

  private static void book() {
    Check.of("Promise 4, book: The tape (it goes) is THE BOOK: how many STATEMENTS; NONE with a FAULT (all stays). "
        + "Without one it is HOUR 0, nobody is AT a LEAF, there are no GHOSTS, no CHANGES.");
    WetInk x = lively();
    int[] before = Check.stateOf(x);
    String[] bad = {"x", "ink", "ink q eyes 1;guard 0 0;", "word z;word z;", "eyes [", "leaf ink ink ink", "guard 2 0;guard 2 2;"};
    for (String text : bad) {
      Check.due("book of " + text, Check.tell(x, text), -1);
      Check.same("all stays behind " + text, Check.stateOf(x), before);
      Check.due("the tape goes", x.end(1), false);
    }
    Check.due("book of an empty tape", x.book(), 0);
    Check.due("there are no leaves", x.has(1), 0);
    for (int what = 0; what <= 10; what++) {
      Check.due("has(" + what + ") of an empty book", x.has(what), 0);
    }
    WetInk y = lively();
    Check.due("a book of two leaves", Check.tell(y, "ink i eyes 3;leaf abcde ink i;leaf xyz ink i;"
        + "reader r pace 2 skips 0 pay 5;reader s pace 1 skips 2 pay 6;"), 5);
    Check.due("the tape goes", y.end(1), false);
    Check.due("HOUR", y.has(5), 0);
    Check.due("reader 0", y.reader(0, 0), -1);
    Check.due("reader 1", y.reader(1, 0), -1);
    Check.due("its place", y.reader(1, 1), 0);
    Check.due("GHOSTS", y.has(9), 0);
    Check.due("CHANGES", y.has(10), 0);
    Check.due("WET signs", y.has(6), 8);
    Check.due("of the old rule nothing", y.sign(0, 2, 1), 3);
    Check.due("of the old guard nothing", y.guard(1), 0);
    Check.due("of the old words nothing", y.letter(2, 0, 0), -1);
    Check.due("what stood is what is told", y.stood(0, 1, 0), 2);
    Check.due("80 statements", Check.tell(y, Check.times("guard 1 0;", 80)), 80);
    booksInTurn();
    longRules();
  }

  /** Two books take turns inside: what was there two books ago must not show, nor what a book with a fault left. */
  private static void booksInTurn() {
    WetInk x = lively();
    String wide = "ink abcdef eyes 2;ink ghijkl eyes 3;leaf abcdefgh ink abcdef;leaf abcdefgh ink ghijkl;leaf ab ink ghijkl;"
        + "reader mnopqr pace 9 skips 9 pay 9;reader stuvwx pace 8 skips 8 pay 8;word abcdefghijkl;word mnopqrstuvwx;"
        + "eyes 9 when all;eyes 8 when all;guard 9 8;";
    String narrow = "ink a eyes 1;leaf z ink a;reader b pace 1 skips 0 pay 1;word c;";
    int[] first = Check.stateOf(Check.told(narrow));
    for (int i = 0; i < 9; i++) {
      Check.tell(x, i % 3 == 0 ? wide + "x" : wide);
      Check.due("a narrow book behind a wide one", Check.tell(x, narrow), 4);
      Check.same("behind a wide one", Check.stateOf(x), first);
      Check.due("an empty book", Check.tell(x, i % 2 == 0 ? "" : "ink"), i % 2 == 0 ? 0 : -1);
      Check.due("a narrow book once more", Check.tell(x, narrow), 4);
      Check.same("once more", Check.stateOf(x), first);
    }
  }

  /** The steps of rules take much room, and must find it free again. */
  private static void longRules() {
    WetInk x = new WetInk();
    String rule = "eyes 1" + Check.times("+1-1", 40) + " when 1" + Check.times("*2/2", 40) + "=1;";
    String book = "ink i eyes 9;leaf a ink i;" + rule + rule + rule;
    for (int i = 0; i < 30; i++) {
      Check.due("a book of long rules", Check.tell(x, book), 5);
      Check.due("they count", x.sign(0, 0, 1), 1);
      Check.due("one with a fault", Check.tell(x, book + "eyes 1+1+1+1+1"), -1);
      Check.due("they still count", x.write(0, 0, 2, 0), 1);
    }
  }

  private static void fault() {
    Check.of("Promise 5, fault: Of the latest book(): its FAULT (what 0; 0 without, and ahead of any), its place (1; NONE "
        + "without). NONE for another what.");
    WetInk x = new WetInk();
    Check.due("ahead of any", x.fault(0), 0);
    Check.due("no place ahead of any", x.fault(1), -1);
    Check.tell(x, "guard 1 0;  guard 0 0;");
    Check.due("with one", x.fault(0), 2);
    Check.due("its place", x.fault(1), 18);
    Check.due("asked again", x.fault(0), 2);
    Check.due("what -1", x.fault(-1), -1);
    Check.due("what 2", x.fault(2), -1);
    Check.due("the least what", x.fault(Integer.MIN_VALUE), -1);
    Check.due("the greatest what", x.fault(Integer.MAX_VALUE), -1);
    Check.put(x, new int[] {1, 2, 3}, 0);
    Check.due("on() is no book", x.on(), false);
    Check.due("so the fault is the same", x.fault(0), 2);
    Check.tell(x, "x");
    Check.due("of the latest", x.fault(0), 1);
    Check.due("its place", x.fault(1), 0);
    Check.due("book of nothing", x.book(), 0);
    Check.due("without one", x.fault(0), 0);
    Check.due("no place without one", x.fault(1), -1);
  }

  private static void has() {
    Check.of("Promise 6, has: How many there are: .. NONE for others.");
    WetInk x = lively();
    int[] want = {1, 2, 2, 1, 2, 2, 6, 1, 1, 3, 2};
    for (int what = 0; what <= 10; what++) {
      Check.due("has(" + what + ")", x.has(what), want[what]);
    }
    Check.due("has(-1)", x.has(-1), -1);
    Check.due("has(11)", x.has(11), -1);
    Check.due("has of the least number", x.has(Integer.MIN_VALUE), -1);
    Check.due("has of the greatest number", x.has(Integer.MAX_VALUE), -1);
  }

  private static void letter() {
    Check.of("Promise 7, letter: Letter k of the NAME of an INK (kind 0), a READER (1), of a WORD (2): 1 .. 26; 0 behind "
        + "it; NONE when there is none such, or k is not 0 .. 11.");
    WetInk x = Check.told("ink a eyes 1;ink zbcdef eyes 1;reader zyxwvu pace 1 skips 0 pay 0;word abcdefghijkz;word b;");
    spelled(x, 0, 0, "a");
    spelled(x, 0, 1, "zbcdef");
    spelled(x, 0, 2, null);
    spelled(x, 0, -1, null);
    spelled(x, 1, 0, "zyxwvu");
    spelled(x, 1, 1, null);
    spelled(x, 1, -1, null);
    spelled(x, 2, 0, "abcdefghijkz");
    spelled(x, 2, 1, "b");
    spelled(x, 2, 2, null);
    spelled(x, 2, -1, null);
    spelled(x, 3, 0, null);
    spelled(x, -1, 0, null);
    spelled(x, 0, Integer.MAX_VALUE, null);
    spelled(x, Integer.MIN_VALUE, 0, null);
  }

  private static void spelled(WetInk x, int kind, int which, String name) {
    for (int k = 0; k < 12; k++) {
      int want = name == null ? -1 : k < name.length() ? name.charAt(k) - 'a' + 1 : 0;
      Check.due("letter(" + kind + ", " + which + ", " + k + ")", x.letter(kind, which, k), want);
    }
    for (int k : new int[] {-1, 12, Integer.MIN_VALUE, Integer.MAX_VALUE}) {
      Check.due("letter(" + kind + ", " + which + ", " + k + ")", x.letter(kind, which, k), -1);
    }
  }
}
