import java.math.BigInteger;
import java.util.ArrayList;
import java.util.List;
import java.util.Random;

/** The document's terms once more, as slowly and as literally as they can be written: what the class is held against. */
final class Model {
  static final long MANY = 1_000_000_000_000_000L;

  /** A part of a rule: a number, a word, or a sign with one or two parts. */
  static final class Node {
    final String kind;
    final int number;
    final Node left;
    final Node right;

    Node(String kind, int number, Node left, Node right) {
      this.kind = kind;
      this.number = number;
      this.left = left;
      this.right = right;
    }

    long value(int place, int leaf, int letter, int needs) {
      switch (kind) {
        case "N": return number;
        case "place": return place;
        case "leaf": return leaf;
        case "letter": return letter;
        case "needs": return needs;
        case "all": return 1;
        case "()":
        case "[]": return left.value(place, leaf, letter, needs);
        case "not": return left.value(place, leaf, letter, needs) == 0 ? 1 : 0;
        default: return two(left.value(place, leaf, letter, needs), right.value(place, leaf, letter, needs));
      }
    }

    private long two(long a, long b) {
      switch (kind) {
        case "+": return kept(a + b);
        case "-": return kept(a - b);
        case "*": return kept(a * b);
        case "/": return b == 0 ? 0 : (long) Math.floor((double) a / b);
        case "min": return a < b ? a : b;
        case "max": return a > b ? a : b;
        case "<": return a < b ? 1 : 0;
        case ">": return a > b ? 1 : 0;
        case "=": return a == b ? 1 : 0;
        case "and": return a != 0 && b != 0 ? 1 : 0;
        case "or": return a != 0 || b != 0 ? 1 : 0;
        default: throw new IllegalStateException(kind);
      }
    }

    private static long kept(long v) {
      return v > 1000000 ? 1000000 : v < -1000000 ? -1000000 : v;
    }

    String text(Random random) {
      String gap = random.nextInt(3) == 0 ? "" : random.nextBoolean() ? " " : "\n ";
      switch (kind) {
        case "N": return "" + number;
        case "()": return "(" + gap + left.text(random) + gap + ")";
        case "[]": return "[" + gap + left.text(random) + "]" + gap;
        case "not": return "not " + left.text(random);
        case "min":
        case "max": return kind + gap + "(" + left.text(random) + gap + "," + right.text(random) + gap + ")";
        case "and":
        case "or": return left.text(random) + " " + kind + " " + right.text(random);
        case "+": case "-": case "*": case "/": case "<": case ">": case "=":
          return left.text(random) + gap + kind + gap + right.text(random);
        default: return kind;
      }
    }
  }

  List<Integer> inkEyes = new ArrayList<>();
  List<String> leaves = new ArrayList<>();
  List<Integer> leafInks = new ArrayList<>();
  List<int[]> readers = new ArrayList<>();
  List<Node> sums = new ArrayList<>();
  List<Node> tests = new ArrayList<>();
  List<String> words = new ArrayList<>();
  int guardEvery = 0;
  int guardFrom = 0;

  int hour;
  int[][] letter;
  int[][] need;
  int[][] since;
  int[][] ghost;
  int[] seat;
  int[] at;
  List<int[]> changes = new ArrayList<>();
  BigInteger seed = BigInteger.ONE;

  void start() {
    hour = 0;
    changes.clear();
    letter = new int[leaves.size()][];
    need = new int[leaves.size()][];
    since = new int[leaves.size()][];
    ghost = new int[leaves.size()][];
    for (int l = 0; l < leaves.size(); l++) {
      int n = leaves.get(l).length();
      letter[l] = new int[n];
      need[l] = new int[n];
      since[l] = new int[n];
      ghost[l] = new int[n];
      for (int p = 0; p < n; p++) {
        letter[l][p] = leaves.get(l).charAt(p) - 96;
        need[l][p] = eyes(l, p, letter[l][p], leafInks.get(l));
        since[l][p] = 0;
      }
    }
    seat = new int[readers.size()];
    at = new int[readers.size()];
    for (int r = 0; r < seat.length; r++) {
      seat[r] = -1;
    }
  }

  Model copy() {
    Model m = new Model();
    m.inkEyes = inkEyes;
    m.leaves = leaves;
    m.leafInks = leafInks;
    m.readers = readers;
    m.sums = sums;
    m.tests = tests;
    m.words = words;
    m.guardEvery = guardEvery;
    m.guardFrom = guardFrom;
    m.hour = hour;
    m.letter = deep(letter);
    m.need = deep(need);
    m.since = deep(since);
    m.ghost = deep(ghost);
    m.seat = seat.clone();
    m.at = at.clone();
    m.changes = new ArrayList<>(changes);
    m.seed = seed;
    return m;
  }

  private static int[][] deep(int[][] rows) {
    int[][] copy = new int[rows.length][];
    for (int i = 0; i < rows.length; i++) {
      copy[i] = rows[i].clone();
    }
    return copy;
  }

  int eyes(int l, int p, int c, int ink) {
    int needs = inkEyes.get(ink);
    for (int r = 0; r < sums.size(); r++) {
      if (tests.get(r).value(p, l, c, needs) != 0) {
        long v = sums.get(r).value(p, l, c, needs);
        return v < 0 ? 0 : v > 99 ? 99 : (int) v;
      }
    }
    return needs;
  }

  boolean place(int l, int p) {
    return l >= 0 && l < leaves.size() && p >= 0 && p < letter[l].length;
  }

  boolean span(int l, int from, int to) {
    return place(l, from) && place(l, to) && from <= to;
  }

  boolean wet(int l, int p) {
    return letter[l][p] != 0 && need[l][p] > 0;
  }

  boolean dry(int l, int p) {
    return letter[l][p] != 0 && need[l][p] == 0;
  }

  boolean guard(int h) {
    if (guardEvery == 0) {
      return false;
    }
    for (int g = guardFrom; g <= h; g += guardEvery) {
      if (g == h) {
        return true;
      }
    }
    return false;
  }

  int has(int what) {
    int n = 0;
    switch (what) {
      case 0: return inkEyes.size();
      case 1: return leaves.size();
      case 2: return readers.size();
      case 3: return sums.size();
      case 4: return words.size();
      case 5: return hour;
      case 6: case 7: case 8: case 9:
        for (int l = 0; l < leaves.size(); l++) {
          n += leaf(l, what - 5);
        }
        return n;
      case 10: return changes.size();
      default: return -1;
    }
  }

  int leaf(int l, int what) {
    if (l < 0 || l >= leaves.size() || what < 0 || what > 6) {
      return -1;
    }
    int[] all = new int[7];
    all[0] = letter[l].length;
    for (int p = 0; p < letter[l].length; p++) {
      all[1] += wet(l, p) ? 1 : 0;
      all[2] += dry(l, p) ? 1 : 0;
      all[3] += letter[l][p] == 0 ? 1 : 0;
      all[4] += ghost[l][p] != 0 ? 1 : 0;
      all[5] = Math.max(all[5], need[l][p]);
      all[6] += need[l][p];
    }
    return all[what];
  }

  int sign(int l, int p, int what) {
    if (!place(l, p)) {
      return -1;
    }
    switch (what) {
      case 0: return letter[l][p];
      case 1: return need[l][p];
      case 2: return dry(l, p) ? since[l][p] : -1;
      case 3: return ghost[l][p];
      default: return -1;
    }
  }

  int reader(int r, int what) {
    if (r < 0 || r >= readers.size()) {
      return -1;
    }
    switch (what) {
      case 0: return seat[r];
      case 1: return at[r];
      case 2:
        Model m = copy();
        int n = 0;
        while (m.seat[r] >= 0) {
          m.pass();
          n++;
        }
        return n;
      default: return -1;
    }
  }

  int read(int l, int from, int to, int n) {
    if (!span(l, from, to) || n < 1 || n > 99) {
      return -1;
    }
    int dried = 0;
    for (int i = 0; i < n; i++) {
      for (int p = from; p <= to; p++) {
        dried += eye(l, p, hour);
      }
    }
    return dried;
  }

  private int eye(int l, int p, int since) {
    if (!wet(l, p)) {
      return 0;
    }
    need[l][p]--;
    if (need[l][p] == 0) {
      this.since[l][p] = since;
      return 1;
    }
    return 0;
  }

  private void put(int l, int p, int c, int eyes) {
    if (letter[l][p] != c) {
      changes.add(new int[] {hour, l, p, letter[l][p]});
      if (changes.size() > 400) {
        changes.remove(0);
      }
    }
    letter[l][p] = c;
    need[l][p] = eyes;
    since[l][p] = hour;
  }

  int wipe(int l, int from, int to) {
    if (!span(l, from, to)) {
      return -1;
    }
    int n = 0;
    for (int p = from; p <= to; p++) {
      if (dry(l, p)) {
        return -1;
      }
      n += letter[l][p] != 0 ? 1 : 0;
    }
    for (int p = from; p <= to; p++) {
      put(l, p, 0, 0);
    }
    return n;
  }

  int write(int l, int p, int c, int ink) {
    if (!place(l, p) || c < 1 || c > 26 || ink < 0 || ink >= inkEyes.size() || dry(l, p)) {
      return -1;
    }
    put(l, p, c, eyes(l, p, c, ink));
    return need[l][p];
  }

  int press(int l, int on) {
    if (l < 0 || on < 0 || l >= leaves.size() || on >= leaves.size() || l == on) {
      return -1;
    }
    int n = 0;
    for (int p = 0; p < letter[l].length; p++) {
      for (int q = 0; q < letter[on].length; q++) {
        if (wet(l, p) && letter[on].length - 1 - q == p) {
          ghost[on][q] = letter[l][p];
          n++;
        }
      }
    }
    return n;
  }

  int seat(int r, int l) {
    if (r < 0 || l < 0 || r >= readers.size() || l >= leaves.size() || seat[r] >= 0) {
      return -1;
    }
    seat[r] = l;
    at[r] = 0;
    return reader(r, 2);
  }

  int pass() {
    int dried = 0;
    for (int r = 0; r < readers.size(); r++) {
      for (int i = 0; i < readers.get(r)[0] && seat[r] >= 0; i++) {
        int skip = readers.get(r)[1];
        boolean skipped = skip > 0 && at[r] % skip == skip - 1;
        if (!skipped) {
          dried += eye(seat[r], at[r], hour + 1);
        }
        at[r]++;
        if (at[r] == letter[seat[r]].length) {
          seat[r] = -1;
          at[r] = 0;
        }
      }
    }
    hour++;
    return dried;
  }

  int hours(int n) {
    if (n < 1 || n > 999 || hour + n > 9999) {
      return -1;
    }
    int dried = 0;
    for (int i = 0; i < n; i++) {
      dried += pass();
    }
    return dried;
  }

  private int draw(int m) {
    seed = seed.multiply(BigInteger.valueOf(1103515245)).add(BigInteger.valueOf(12345)).mod(BigInteger.TWO.pow(31));
    return seed.divide(BigInteger.valueOf(64)).mod(BigInteger.valueOf(m)).intValue();
  }

  int run(int n) {
    if (n < 1 || n > 200 || hour + n > 9999 || readers.isEmpty() || leaves.isEmpty()) {
      return -1;
    }
    int dried = 0;
    for (int i = 0; i < n; i++) {
      int r = draw(readers.size());
      int l = draw(leaves.size());
      if (seat[r] < 0) {
        seat[r] = l;
        at[r] = 0;
      }
      dried += pass();
    }
    return dried;
  }

  int stood(int l, int p, int h) {
    if (!place(l, p) || h < 0 || h > hour) {
      return -1;
    }
    for (int[] c : changes) {
      if (c[1] == l && c[2] == p && c[0] > h) {
        return c[3];
      }
    }
    return letter[l][p];
  }

  int change(int k, int what) {
    return k < 0 || k >= changes.size() || what < 0 || what > 3 ? -1 : changes.get(k)[what];
  }

  int altered(int l, int h) {
    if (l < 0 || l >= leaves.size() || h < 0 || h > hour) {
      return -1;
    }
    int n = 0;
    for (int p = 0; p < letter[l].length; p++) {
      n += stood(l, p, h) != letter[l][p] ? 1 : 0;
    }
    return n;
  }

  int span(int l, boolean wet, int what) {
    if (l < 0 || l >= leaves.size() || what < 0 || what > 1) {
      return -1;
    }
    for (int n = letter[l].length; n > 0; n--) {
      for (int first = 0; first + n <= letter[l].length; first++) {
        boolean all = true;
        for (int p = first; p < first + n; p++) {
          all &= wet ? wet(l, p) : dry(l, p);
        }
        if (all) {
          return what == 0 ? first : n;
        }
      }
    }
    return what == 0 ? -1 : 0;
  }

  private boolean looks(int r, int p) {
    int skip = readers.get(r)[1];
    return skip == 0 || p % skip != skip - 1;
  }

  /** Counts of each reader, or null if it can't be; tried by sums, each sum in the order of the first counts. */
  int[] hire(int l, int from, int to) {
    for (int p = from; p <= to; p++) {
      boolean seen = !wet(l, p);
      for (int r = 0; r < readers.size(); r++) {
        seen |= looks(r, p);
      }
      if (!seen) {
        return null;
      }
    }
    for (int sum = 0;; sum++) {
      int[] best = null;
      for (int[] counts : shares(sum, readers.size())) {
        if (dries(counts, l, from, to) && (best == null || pay(counts) < pay(best))) {
          best = counts;
        }
      }
      if (best != null) {
        return best;
      }
    }
  }

  int pay(int[] counts) {
    int pay = 0;
    for (int r = 0; r < counts.length; r++) {
      pay += counts[r] * readers.get(r)[2];
    }
    return pay;
  }

  private boolean dries(int[] counts, int l, int from, int to) {
    for (int p = from; p <= to; p++) {
      int eyes = 0;
      for (int r = 0; r < counts.length; r++) {
        eyes += looks(r, p) ? counts[r] : 0;
      }
      if (wet(l, p) && eyes < need[l][p]) {
        return false;
      }
    }
    return true;
  }

  private static List<int[]> shares(int sum, int parts) {
    List<int[]> all = new ArrayList<>();
    if (parts == 0) {
      if (sum == 0) {
        all.add(new int[0]);
      }
      return all;
    }
    for (int first = 0; first <= sum; first++) {
      for (int[] others : shares(sum - first, parts - 1)) {
        int[] row = new int[parts];
        row[0] = first;
        System.arraycopy(others, 0, row, 1, parts - 1);
        all.add(row);
      }
    }
    return all;
  }

  int dries(int l, int from, int to) {
    if (!span(l, from, to)) {
      return -1;
    }
    Model m = copy();
    for (int i = 0; i < 70; i++) {
      boolean wet = false;
      for (int p = from; p <= to; p++) {
        wet |= m.wet(l, p);
      }
      if (!wet) {
        return m.hour;
      }
      m.pass();
    }
    return -1;
  }

  private boolean canPlan(int l, int from, int to, int pace, int till) {
    return span(l, from, to) && pace >= 1 && pace <= 64 && till >= hour && till <= hour + 200;
  }

  /** The hours in which the forger can begin, up to the told one. */
  private List<Integer> begins(int l, int from, int to, int pace, int till) {
    List<Model> byHour = new ArrayList<>();
    Model m = copy();
    for (int h = hour; h <= till; h++) {
      byHour.add(m.copy());
      m.pass();
    }
    List<Integer> begins = new ArrayList<>();
    for (int begin = hour; begin <= till; begin++) {
      int h = begin;
      int inHour = 0;
      boolean through = true;
      for (int p = from; p <= to && through; p++) {
        if (inHour == pace) {
          h++;
          inHour = 0;
        }
        inHour++;
        through = h <= till && !guard(h) && byHour.get(h - hour).wet(l, p);
      }
      if (through) {
        begins.add(begin);
      }
    }
    return begins;
  }

  int forge(int l, int from, int to, int pace, int till) {
    if (!canPlan(l, from, to, pace, till)) {
      return -1;
    }
    List<Integer> begins = begins(l, from, to, pace, till);
    return begins.isEmpty() ? -1 : begins.get(begins.size() - 1);
  }

  /** As many bars as there are ways through that have no hour in common (of spans of hours that is the same). */
  int bars(int l, int from, int to, int pace, int till) {
    if (!canPlan(l, from, to, pace, till)) {
      return -1;
    }
    List<Integer> begins = begins(l, from, to, pace, till);
    int hours = (to - from) / pace + 1;
    int[] most = new int[till - hour + 2 + hours];
    for (int h = till - hour; h >= 0; h--) {
      most[h] = most[h + 1];
      if (begins.contains(h + hour)) {
        most[h] = Math.max(most[h], 1 + most[h + hours]);
      }
    }
    return most[0];
  }

  /** The same by trying all sets of hours; for few hours alone. */
  int barsByTrying(int l, int from, int to, int pace, int till) {
    List<Integer> begins = begins(l, from, to, pace, till);
    int hours = (to - from) / pace + 1;
    int fewest = 99;
    for (int set = 0; set < 1 << (till - hour + 1); set++) {
      boolean all = true;
      for (int begin : begins) {
        all &= (set >> (begin - hour) & (1 << hours) - 1) != 0;
      }
      if (all) {
        fewest = Math.min(fewest, Integer.bitCount(set));
      }
    }
    return fewest;
  }

  boolean fits(int l, int p, String word) {
    if (p + word.length() > letter[l].length) {
      return false;
    }
    for (int i = 0; i < word.length(); i++) {
      int c = letter[l][p + i] != 0 ? letter[l][p + i] : ghost[l][p + i];
      if (c != 0 && c != word.charAt(i) - 96) {
        return false;
      }
    }
    return true;
  }

  /** How many texts there are from each place on, without a limit. */
  BigInteger[] onward(int l) {
    int n = letter[l].length;
    BigInteger[] many = new BigInteger[n + 1];
    many[n] = BigInteger.ONE;
    for (int p = n - 1; p >= 0; p--) {
      many[p] = BigInteger.ZERO;
      for (String w : words) {
        many[p] = fits(l, p, w) ? many[p].add(many[p + w.length()]) : many[p];
      }
    }
    return many;
  }

  static long capped(BigInteger n) {
    return n.min(BigInteger.valueOf(MANY)).longValueExact();
  }

  List<Integer> text(int l, long k) {
    BigInteger[] many = onward(l);
    BigInteger left = BigInteger.valueOf(k);
    List<Integer> row = new ArrayList<>();
    if (k < 0 || k >= MANY || left.compareTo(many[0]) >= 0) {
      return row;
    }
    int p = 0;
    while (p < letter[l].length) {
      int w = 0;
      while (!fits(l, p, words.get(w)) || left.compareTo(many[p + words.get(w).length()]) >= 0) {
        left = fits(l, p, words.get(w)) ? left.subtract(many[p + words.get(w).length()]) : left;
        w++;
      }
      row.add(w);
      p += words.get(w).length();
    }
    return row;
  }

  /** All texts one by one, in their order; none at all if there are more than so many. */
  List<List<Integer>> all(int l, int most) {
    List<List<Integer>> all = new ArrayList<>();
    if (onward(l)[0].compareTo(BigInteger.valueOf(most)) <= 0) {
      grow(l, 0, new ArrayList<>(), all, onward(l));
    }
    return all;
  }

  private void grow(int l, int p, List<Integer> row, List<List<Integer>> all, BigInteger[] many) {
    if (p == letter[l].length) {
      all.add(new ArrayList<>(row));
      return;
    }
    for (int w = 0; w < words.size(); w++) {
      if (fits(l, p, words.get(w)) && many[p + words.get(w).length()].signum() > 0) {
        row.add(w);
        grow(l, p + words.get(w).length(), row, all, many);
        row.remove(row.size() - 1);
      }
    }
  }

  BigInteger begins(int l, int word, int place) {
    int n = letter[l].length;
    BigInteger[] before = new BigInteger[n + 1];
    for (int p = 0; p <= n; p++) {
      before[p] = p == 0 ? BigInteger.ONE : BigInteger.ZERO;
      for (String w : words) {
        int s = p - w.length();
        before[p] = s >= 0 && fits(l, s, w) ? before[p].add(before[s]) : before[p];
      }
    }
    if (!fits(l, place, words.get(word))) {
      return BigInteger.ZERO;
    }
    return before[place].multiply(onward(l)[place + words.get(word).length()]);
  }

  int[] image() {
    List<Integer> bytes = new ArrayList<>();
    bytes.add(hour / 256);
    bytes.add(hour % 256);
    for (int l = 0; l < leaves.size(); l++) {
      for (int p = 0; p < letter[l].length; p++) {
        bytes.add(letter[l][p]);
        bytes.add(need[l][p]);
        bytes.add(ghost[l][p]);
      }
    }
    for (int r = 0; r < readers.size(); r++) {
      bytes.add(seat[r] + 1);
      bytes.add(at[r]);
    }
    int[] row = new int[bytes.size() + 1];
    for (int i = 0; i < bytes.size(); i++) {
      row[i] = bytes.get(i);
    }
    row[bytes.size()] = Check.checkOf(row, bytes.size());
    return row;
  }

  boolean on(int[] bytes) {
    int[] now = image();
    int end = bytes.length - 1;
    if (bytes.length != now.length || bytes[end] != Check.checkOf(bytes, end) || bytes[0] * 256 + bytes[1] > 9999) {
      return false;
    }
    Model m = copy();
    m.hour = bytes[0] * 256 + bytes[1];
    m.changes.clear();
    int k = 2;
    for (int l = 0; l < leaves.size(); l++) {
      for (int p = 0; p < letter[l].length; p++) {
        m.letter[l][p] = bytes[k++];
        m.need[l][p] = bytes[k++];
        m.ghost[l][p] = bytes[k++];
        m.since[l][p] = m.hour;
        if (m.letter[l][p] > 26 || m.ghost[l][p] > 26 || m.need[l][p] > 99 || m.letter[l][p] == 0 && m.need[l][p] > 0) {
          return false;
        }
      }
    }
    for (int r = 0; r < readers.size(); r++) {
      m.seat[r] = bytes[k++] - 1;
      m.at[r] = bytes[k++];
      if (m.seat[r] >= leaves.size() || m.at[r] > 0 && (m.seat[r] < 0 || m.at[r] >= letter[m.seat[r]].length)) {
        return false;
      }
    }
    hour = m.hour;
    changes = m.changes;
    letter = m.letter;
    need = m.need;
    ghost = m.ghost;
    since = m.since;
    seat = m.seat;
    at = m.at;
    return true;
  }
}
