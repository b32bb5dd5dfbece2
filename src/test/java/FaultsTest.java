import java.util.Random;

/** Promises 4 and 5 at random: texts with something wrong in them, against a second way to find the fault. */
public final class FaultsTest {
  private static final String[] PIECES = {"ink", "eyes", "leaf", "reader", "pace", "skips", "pay", "when", "word", "guard",
      "or", "and", "not", "all", "place", "letter", "needs", "min", "max", "a", "ia", "rb", "abcdefg", "abcdefghijklm", "0", "1",
      "9", "21", "64", "65", "98", "99", "100", "9999", "12345", ";", "+", "-", "*", "/", "<", ">", "=", "(", ")", "[", "]", ",",
      " ", "\n", "\t", "A", "%", "((((", "not not not ", "[[[", "((", "ink ia eyes 2;", "word a;", "guard 2 1;", "eyes 1 when all;"};

  public static void main(String[] args) {
    int runs = args.length > 0 ? Integer.parseInt(args[0]) : 20000;
    int[] seen = new int[6];
    for (int seed = 0; seed < runs; seed++) {
      Random random = new Random(seed);
      String text = random.nextInt(4) == 0 ? pieces(random) : new Maker(random).make(new Model());
      int changes = random.nextInt(4);
      for (int i = 0; i < changes; i++) {
        text = changed(random, text);
      }
      if (text.length() > 1600) {
        text = text.substring(0, 1600);
      }
      Faults due = new Faults(text);
      seen[due.fault]++;
      WetInk x = new WetInk();
      Check.due("book of " + text, Check.tell(x, text), due.fault == 0 ? due.statements : -1);
      Check.due("fault of " + text, x.fault(0), due.fault);
      Check.due("place of " + text, x.fault(1), due.place);
    }
    for (int fault = 0; fault < 6; fault++) {
      Check.due("fault " + fault + " came often enough", seen[fault] > runs / 200, true);
    }
    Check.finish("FaultsTest");
  }

  private static String pieces(Random random) {
    StringBuilder text = new StringBuilder();
    int n = random.nextInt(90);
    String most = PIECES[random.nextInt(PIECES.length)];
    for (int i = 0; i < n; i++) {
      text.append(random.nextInt(3) > 0 ? most : random.nextBoolean() ? "" : PIECES[random.nextInt(PIECES.length)]);
    }
    return text.toString();
  }

  private static String changed(Random random, String text) {
    int at = random.nextInt(text.length() + 1);
    int to = Math.min(text.length(), at + random.nextInt(3));
    String piece = PIECES[random.nextInt(PIECES.length)];
    switch (random.nextInt(9)) {
      case 0: return text.substring(0, at);
      case 1: return text.substring(0, at) + text.substring(to);
      case 2: return text.substring(0, at) + piece + text.substring(to);
      case 3: return text.substring(0, at) + " " + piece + " " + text.substring(to);
      case 4: return text + text.substring(text.lastIndexOf(";", at) + 1);
      case 5: return atToken(random, text, piece);
      case 6: return before(random, text, "when ", "when " + "not [".repeat(random.nextInt(4)) + "[".repeat(random.nextInt(3)));
      case 7: return before(random, text, "place", "(min(".repeat(random.nextInt(4)) + "(".repeat(random.nextInt(4)) + "place");
      default: return before(random, text, " " + random.nextInt(10), " " + random.nextInt(110));
    }
  }

  /** Puts a piece in place of one of those in the text, if there is one. */
  private static String before(Random random, String text, String old, String piece) {
    int at = text.indexOf(old, random.nextInt(text.length() + 1));
    return at < 0 ? text : text.substring(0, at) + piece + text.substring(at + old.length());
  }

  /** Another piece in place of a whole word, number or mark: such texts go wrong later than others. */
  private static String atToken(Random random, String text, String piece) {
    int at = random.nextInt(text.length() + 1);
    int from = at;
    while (from > 0 && Character.isLetterOrDigit(text.charAt(from - 1))) {
      from--;
    }
    int to = at;
    while (to < text.length() && Character.isLetterOrDigit(text.charAt(to))) {
      to++;
    }
    return text.substring(0, from) + piece + text.substring(to);
  }
}
