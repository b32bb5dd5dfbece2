import java.util.Random;

/** Promise 23 with many eyes: four readers on a long leaf whose signs need what an image tells, against all counts tried. */
public final class HireTest {
  private static final int PLACES = 64;

  public static void main(String[] args) {
    int runs = args.length > 0 ? Integer.parseInt(args[0]) : 400;
    for (int seed = 1; seed <= runs; seed++) {
      Random random = new Random(seed);
      int most = seed % 20 == 0 ? 99 : 1 + random.nextInt(40);
      oneBook("seed " + seed + ": ", random, most);
    }
    Check.finish("HireTest");
  }

  private static void oneBook(String name, Random random, int most) {
    int[] skips = new int[1 + random.nextInt(4)];
    int[] pays = new int[skips.length];
    StringBuilder text = new StringBuilder("ink i eyes 1;leaf " + "a".repeat(PLACES) + " ink i;");
    int dearest = random.nextBoolean() ? 3 : 100;
    for (int r = 0; r < skips.length; r++) {
      int skip = random.nextInt(9);
      skips[r] = skip == 0 ? 0 : skip + 1;
      pays[r] = random.nextInt(dearest);
      text.append("reader r").append((char) ('a' + r)).append(" pace 1 skips ").append(skips[r]).append(" pay ")
          .append(pays[r]).append(";");
    }
    WetInk x = Check.told(text.toString());
    int[] eyes = new int[PLACES];
    for (int p = 0; p < PLACES; p++) {
      eyes[p] = random.nextInt(3) == 0 ? 0 : random.nextInt(most + 1);
    }
    need(x, eyes, skips.length);
    for (int i = 0; i < 3; i++) {
      int from = i == 0 ? 0 : random.nextInt(PLACES);
      int to = i == 0 ? PLACES - 1 : from + random.nextInt(PLACES - from);
      int[] counts = fewest(pays, asked(eyes, skips, from, to));
      due(name + text + " " + from + " " + to + " ", x, new int[] {from, to}, counts, pays);
    }
  }

  private static void need(WetInk x, int[] eyes, int readers) {
    int[] image = new int[2 + 3 * PLACES + 2 * readers + 1];
    for (int p = 0; p < PLACES; p++) {
      image[2 + 3 * p] = 1;
      image[2 + 3 * p + 1] = eyes[p];
    }
    image[image.length - 1] = Check.checkOf(image, image.length - 1);
    Check.put(x, image, 0);
    Check.due("the image is taken", x.on(), true);
  }

  /** For each group of four readers, as bits, the most eyes of a sign that just they do not skip. */
  private static int[] asked(int[] eyes, int[] skips, int from, int to) {
    int[] asked = new int[16];
    for (int p = from; p <= to; p++) {
      int group = 0;
      for (int r = 0; r < skips.length; r++) {
        boolean skipped = false;
        for (int n = skips[r]; n > 0 && n <= p + 1; n += skips[r]) {
          skipped |= n == p + 1;
        }
        group |= skipped ? 0 : 1 << r;
      }
      asked[group] = Math.max(asked[group], eyes[p]);
    }
    return asked;
  }

  /** The best counts of four readers by trying all of the first three; null if it can't be. */
  private static int[] fewest(int[] pays, int[] asked) {
    if (asked[0] > 0) {
      return null;
    }
    int[] ends = new int[4];
    for (int group = 1; group < 16; group++) {
      for (int r = 0; r < 4; r++) {
        ends[r] = (group >> r & 1) == 1 ? Math.max(ends[r], asked[group]) : ends[r];
      }
    }
    int[] best = null;
    for (int a = 0; a <= ends[0]; a++) {
      for (int b = 0; b <= ends[1]; b++) {
        for (int c = 0; c <= ends[2]; c++) {
          int[] counts = {a, b, c, 0};
          if (completed(counts, asked) && (best == null || better(counts, best, pays))) {
            best = counts;
          }
        }
      }
    }
    return best;
  }

  /** As many of the fourth as are lacking; false if that is of no use. */
  private static boolean completed(int[] counts, int[] asked) {
    for (int group = 1; group < 16; group++) {
      int lack = asked[group];
      for (int r = 0; r < 3; r++) {
        lack -= (group >> r & 1) * counts[r];
      }
      if (lack > 0 && group < 8) {
        return false;
      }
      counts[3] = group < 8 ? counts[3] : Math.max(counts[3], lack);
    }
    return true;
  }

  private static boolean better(int[] counts, int[] best, int[] pays) {
    int sum = total(counts) - total(best);
    int pay = pay(counts, pays) - pay(best, pays);
    // of like ones those that were tried first have the fewest of the first readers
    return sum < 0 || sum == 0 && pay < 0;
  }

  private static int total(int[] counts) {
    return counts[0] + counts[1] + counts[2] + counts[3];
  }

  private static int pay(int[] counts, int[] pays) {
    int pay = 0;
    for (int r = 0; r < pays.length; r++) {
      pay += counts[r] * pays[r];
    }
    return pay;
  }

  private static void due(String name, WetInk x, int[] span, int[] counts, int[] pays) {
    int from = span[0];
    int to = span[1];
    Check.due(name + "readers", x.hire(0, from, to, 0), counts == null ? -1 : total(counts));
    Check.due(name + "pay", x.hire(0, from, to, 1), counts == null ? -1 : pay(counts, pays));
    for (int r = 0; r < pays.length; r++) {
      Check.due(name + "of reader " + r, x.hire(0, from, to, 2 + r), counts == null ? -1 : counts[r]);
    }
    Check.due(name + "of one more", x.hire(0, from, to, 2 + pays.length), -1);
  }
}
