import java.math.BigInteger;
import java.util.List;
import java.util.Random;

/** All promises at random: what the class answers against what the slow model does. */
public final class RandomTest {
  private static Random random;
  private static WetInk x;
  private static Model m;

  public static void main(String[] args) {
    int runs = args.length > 0 ? Integer.parseInt(args[0]) : 300;
    int first = args.length > 1 ? Integer.parseInt(args[1]) : 1;
    for (int seed = first; seed < first + runs; seed++) {
      random = new Random(seed);
      x = new WetInk();
      m = new Model();
      m.start();
      m.seed = BigInteger.ONE;
      oneRun("seed " + seed + ": ");
    }
    Check.finish("RandomTest");
  }

  private static void oneRun(String name) {
    for (int books = 0; books < 4; books++) {
      String text = new Maker(random).make(m);
      Check.tell(x, text);
      Check.due(name + "fault of " + text, x.fault(0), 0);
      int acts = random.nextInt(60);
      state(name + "behind the book ");
      for (int i = 0; i < acts; i++) {
        act(name);
      }
      state(name + "behind the acts ");
      for (int i = 0; i < 12; i++) {
        plans(name);
      }
      letters(name);
      texts(name);
      images(name);
      for (int i = 0; i < 4; i++) {
        act(name);
      }
      state(name + "at the end ");
    }
  }

  private static int up(int n) {
    return random.nextInt(25) == 0 ? random.nextInt(n + 4) - 2 : random.nextInt(Math.max(1, n));
  }

  private static int someLeaf() {
    return up(m.leaves.size());
  }

  private static int somePlace(int leaf) {
    return up(leaf >= 0 && leaf < m.leaves.size() ? m.leaves.get(leaf).length() : 3);
  }

  private static void act(String name) {
    int leaf = someLeaf();
    int from = somePlace(leaf);
    int to = random.nextBoolean() ? from + random.nextInt(3) : somePlace(leaf);
    switch (random.nextInt(9)) {
      case 0: {
        int n = 1 + random.nextInt(2);
        Check.due(name + "read", x.read(leaf, from, to, n), m.read(leaf, from, to, n));
        break;
      }
      case 1:
        Check.due(name + "wipe", x.wipe(leaf, from, to), m.wipe(leaf, from, to));
        break;
      case 2:
      case 3: {
        int letter = random.nextInt(12) == 0 ? random.nextInt(30) - 1 : 1 + random.nextInt(3);
        int ink = up(m.inkEyes.size());
        Check.due(name + "write", x.write(leaf, from, letter, ink), m.write(leaf, from, letter, ink));
        break;
      }
      case 4: {
        int on = someLeaf();
        Check.due(name + "press", x.press(leaf, on), m.press(leaf, on));
        break;
      }
      case 5:
      case 6: {
        int reader = up(m.readers.size());
        Check.due(name + "seat", x.seat(reader, leaf), m.seat(reader, leaf));
        break;
      }
      case 7: {
        int n = random.nextInt(20) == 0 ? random.nextInt(1002) : 1 + random.nextInt(2);
        Check.due(name + "hours", x.hours(n), m.hours(n));
        break;
      }
      default: {
        if (random.nextInt(4) == 0) {
          int seed = random.nextInt() >>> random.nextInt(20);
          Check.due(name + "seed", x.seed(seed), seed >= 0);
          m.seed = seed >= 0 ? BigInteger.valueOf(seed) : m.seed;
        }
        int n = random.nextInt(10) == 0 ? random.nextInt(203) : 1;
        Check.due(name + "run", x.run(n), m.run(n));
      }
    }
  }

  private static void state(String name) {
    for (int what = -1; what <= 11; what++) {
      Check.due(name + "has " + what, x.has(what), m.has(what));
    }
    for (int l = -1; l <= m.leaves.size(); l++) {
      for (int what = -1; what <= 7; what++) {
        Check.due(name + "leaf " + l + " " + what, x.leaf(l, what), m.leaf(l, what));
      }
      int places = l >= 0 && l < m.leaves.size() ? m.leaves.get(l).length() : 1;
      int h = random.nextInt(m.hour + 1);
      for (int p = -1; p <= places; p++) {
        for (int what = -1; what <= 4; what++) {
          Check.due(name + "sign " + l + " " + p + " " + what, x.sign(l, p, what), m.sign(l, p, what));
        }
        Check.due(name + "stood " + l + " " + p + " " + h, x.stood(l, p, h), m.stood(l, p, h));
      }
      for (int hour : new int[] {-1, 0, h, m.hour - 1, m.hour, m.hour + 1}) {
        Check.due(name + "altered " + l + " " + hour, x.altered(l, hour), m.altered(l, hour));
        Check.due(name + "stood " + l + " 0 " + hour, x.stood(l, 0, hour), m.stood(l, 0, hour));
      }
      for (int what = -1; what <= 2; what++) {
        Check.due(name + "span wet " + what, x.span(l, true, what), m.span(l, true, what));
        Check.due(name + "span dry " + what, x.span(l, false, what), m.span(l, false, what));
      }
    }
    for (int r = -1; r <= m.readers.size(); r++) {
      for (int what = -1; what <= 3; what++) {
        Check.due(name + "reader " + r + " " + what, x.reader(r, what), m.reader(r, what));
      }
    }
    for (int k = -1; k <= m.changes.size(); k++) {
      for (int what = -1; what <= 4; what++) {
        Check.due(name + "change " + k + " " + what, x.change(k, what), m.change(k, what));
      }
    }
  }

  private static void plans(String name) {
    int leaf = someLeaf();
    int from = somePlace(leaf);
    int to = random.nextBoolean() ? from + random.nextInt(3) : somePlace(leaf);
    String span = name + leaf + " " + from + " " + to + " ";
    Check.due(span + "dries", x.dries(leaf, from, to), m.dries(leaf, from, to));
    int pace = 1 + random.nextInt(random.nextBoolean() ? 3 : 66);
    int till = m.hour + random.nextInt(random.nextInt(5) == 0 ? 203 : 30) - 1;
    String told = span + pace + " " + till + " ";
    Check.due(told + "forge", x.forge(leaf, from, to, pace, till), m.forge(leaf, from, to, pace, till));
    int bars = x.bars(leaf, from, to, pace, till);
    Check.due(told + "bars", bars, m.bars(leaf, from, to, pace, till));
    if (bars >= 0 && till - m.hour < 10) {
      Check.due(told + "bars by trying", bars, m.barsByTrying(leaf, from, to, pace, till));
    }
    int hour = random.nextInt(200) - 2;
    Check.due(name + "guard " + hour, x.guard(hour), hour < 0 ? -1 : m.guard(hour) ? 1 : 0);
    if (m.span(leaf, from, to)) {
      hire(span + "hire ", leaf, from, to);
    } else {
      Check.due(span + "hire", x.hire(leaf, from, to, 0), -1);
    }
  }

  private static void hire(String name, int leaf, int from, int to) {
    int most = 0;
    for (int p = from; p <= to; p++) {
      most = Math.max(most, m.need[leaf][p]);
    }
    if (most > new int[] {99, 99, 50, 9, 5}[m.readers.size()]) {
      return;
    }
    int[] counts = m.hire(leaf, from, to);
    int sum = 0;
    for (int r = 0; r < m.readers.size(); r++) {
      sum += counts == null ? 0 : counts[r];
      Check.due(name + (2 + r), x.hire(leaf, from, to, 2 + r), counts == null ? -1 : counts[r]);
    }
    Check.due(name + 0, x.hire(leaf, from, to, 0), counts == null ? -1 : sum);
    Check.due(name + 1, x.hire(leaf, from, to, 1), counts == null ? -1 : m.pay(counts));
    Check.due(name + -1, x.hire(leaf, from, to, -1), -1);
    Check.due(name + "of others", x.hire(leaf, from, to, 2 + m.readers.size()), -1);
  }

  /** Which letters can stand, asked of one leaf after another, ahead of any other call about texts. */
  private static void letters(String name) {
    for (int l = 0; l < m.leaves.size(); l++) {
      int p = random.nextInt(m.leaves.get(l).length());
      Check.due(name + "some letter in " + l + " " + p, x.could(l, p) > 0, m.onward(l)[0].signum() > 0);
    }
  }

  private static void texts(String name) {
    for (int l = 0; l < m.leaves.size(); l++) {
      int places = m.leaves.get(l).length();
      // blanks, so that there is something to fill
      for (int p = 0; p < places; p++) {
        if (random.nextInt(3) > 0) {
          Check.due(name + "wipe " + p, x.wipe(l, p, p), m.wipe(l, p, p));
        }
      }
      BigInteger many = m.onward(l)[0];
      Check.due(name + "texts " + l, x.texts(l), Model.capped(many));
      for (int i = 0; i < 4; i++) {
        long k = (long) (random.nextDouble() * Model.capped(many)) + random.nextInt(2);
        List<Integer> row = m.text(l, k);
        for (int j = 0; j < row.size() + 2; j++) {
          Check.due(name + "text " + l + " " + k + " " + j, x.text(l, k, j), j < row.size() ? row.get(j) : -1);
        }
      }
      for (int w = 0; w < m.words.size(); w++) {
        int p = random.nextInt(places);
        Check.due(name + "begins " + l + " " + w + " " + p, x.begins(l, w, p), Model.capped(m.begins(l, w, p)));
      }
      if (many.compareTo(BigInteger.valueOf(3000)) <= 0) {
        allTexts(name + "all of " + l + " ", l);
      }
    }
  }

  private static void allTexts(String name, int l) {
    List<List<Integer>> all = m.all(l, 3000);
    Check.due(name + "texts", x.texts(l), all.size());
    int places = m.leaves.get(l).length();
    int[] could = new int[places];
    long[][] begun = new long[m.words.size()][places];
    for (int k = 0; k < all.size(); k++) {
      int p = 0;
      for (int j = 0; j < all.get(k).size(); j++) {
        int w = all.get(k).get(j);
        if (all.size() < 100) {
          Check.due(name + "text " + k + " " + j, x.text(l, k, j), w);
        }
        begun[w][p]++;
        for (char c : m.words.get(w).toCharArray()) {
          could[p++] |= 1 << (c - 'a');
        }
      }
    }
    for (int p = 0; p < places; p++) {
      Check.due(name + "could " + p, x.could(l, p), could[p]);
      for (int w = 0; w < m.words.size(); w++) {
        Check.due(name + "begins " + w + " " + p, x.begins(l, w, p), begun[w][p]);
      }
    }
  }

  private static void images(String name) {
    for (int i = 0; i < 6; i++) {
      int[] want = m.image();
      int[] got = Check.imageOf(x);
      Check.due(name + "image's bytes", got.length, want.length);
      for (int k = 0; k < Math.min(want.length, got.length); k++) {
        Check.due(name + "octet " + k, got[k], want[k]);
      }
      Check.due(name + "octet behind", x.octet(want.length), -1);
      int faults = random.nextInt(3);
      for (int f = 0; f < faults; f++) {
        want[random.nextInt(want.length)] = random.nextInt(random.nextBoolean() ? 6 : 256);
      }
      if (random.nextInt(5) > 0) {
        want[want.length - 1] = Check.checkOf(want, want.length - 1);
      }
      Check.put(x, want, 0);
      boolean taken = x.on();
      Check.due(name + "on", taken, m.on(want));
      if (taken && faults > 0) {
        state(name + "behind on ");
      }
    }
  }
}
