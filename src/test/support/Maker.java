import java.util.Random;

/** Makes books at random, each as a text and as a model. */
final class Maker {
  private final Random random;
  private Model model;

  Maker(Random random) {
    this.random = random;
  }

  /** The text of a new book, whose model is the given one. */
  String make(Model into) {
    while (true) {
      model = new Model();
      String text = text();
      if (text.length() <= 1600) {
        into.inkEyes = model.inkEyes;
        into.leaves = model.leaves;
        into.leafInks = model.leafInks;
        into.readers = model.readers;
        into.sums = model.sums;
        into.tests = model.tests;
        into.words = model.words;
        into.guardEvery = model.guardEvery;
        into.guardFrom = model.guardFrom;
        into.start();
        return text;
      }
    }
  }

  private String text() {
    StringBuilder text = new StringBuilder();
    boolean small = random.nextInt(3) > 0;
    int letters = 1 + random.nextInt(small ? 3 : 26);
    int inks = 1 + random.nextInt(6);
    for (int i = 0; i < inks; i++) {
      int eyes = 1 + random.nextInt(small ? 4 : 20);
      model.inkEyes.add(eyes);
      text.append("ink i").append((char) ('a' + i)).append(" eyes ").append(eyes).append(gap()).append(";");
    }
    int leaves = random.nextInt(5);
    int rules = random.nextInt(4);
    int readers = random.nextInt(5);
    int words = random.nextInt(8);
    while (leaves + rules + readers + words > 0) {
      int pick = random.nextInt(leaves + rules + readers + words);
      if (pick < leaves) {
        leaves--;
        text.append(leaf(letters, small));
      } else if (pick < leaves + rules) {
        rules--;
        text.append(rule(small));
      } else if (pick < leaves + rules + readers) {
        readers--;
        text.append(reader());
      } else {
        words--;
        text.append(word(letters));
      }
      if (random.nextInt(6) == 0) {
        model.guardEvery = 1 + random.nextInt(9);
        model.guardFrom = random.nextInt(model.guardEvery);
        text.append("guard ").append(model.guardEvery).append(" ").append(model.guardFrom).append(";");
      }
    }
    return text.toString();
  }

  private String gap() {
    return random.nextInt(4) == 0 ? "\n " : "";
  }

  private String spell(int length, int letters) {
    StringBuilder spell = new StringBuilder();
    for (int i = 0; i < length; i++) {
      spell.append((char) ('a' + random.nextInt(letters)));
    }
    return spell.toString();
  }

  private String leaf(int letters, boolean small) {
    String spell = spell(1 + random.nextInt(small ? 14 : 64), letters);
    int ink = random.nextInt(model.inkEyes.size());
    model.leaves.add(spell);
    model.leafInks.add(ink);
    return gap() + "leaf " + spell + " ink i" + (char) ('a' + ink) + gap() + ";";
  }

  private String reader() {
    int[] row = {1 + random.nextInt(random.nextBoolean() ? 4 : 64), random.nextInt(9), random.nextInt(4)};
    if (row[1] > 0) {
      row[1]++;
    }
    model.readers.add(row);
    return "reader r" + (char) ('a' + model.readers.size()) + " pace " + row[0] + " skips " + row[1] + " pay " + row[2] + ";";
  }

  private String word(int letters) {
    String spell = spell(1 + random.nextInt(random.nextInt(4) == 0 ? 12 : 3), letters);
    if (model.words.contains(spell)) {
      return "";
    }
    model.words.add(spell);
    return "word " + spell + ";";
  }

  private String rule(boolean small) {
    Model.Node sum = sum(0);
    if (small) {
      sum = new Model.Node("min", 0, sum, new Model.Node("N", random.nextInt(6), null, null));
    }
    Model.Node test = test(small ? 1 : 0);
    model.sums.add(sum);
    model.tests.add(test);
    // the min takes one more that is open than the sum was made with
    return "eyes " + sum.text(random) + " when " + test.text(random) + ";";
  }

  private boolean more() {
    return random.nextInt(3) == 0;
  }

  private Model.Node two(String kind, Model.Node left, Model.Node right) {
    return new Model.Node(kind, 0, left, right);
  }

  private Model.Node test(int open) {
    Model.Node node = both(open);
    while (more()) {
      node = two("or", node, both(open));
    }
    return node;
  }

  private Model.Node both(int open) {
    Model.Node node = fact(open);
    while (more()) {
      node = two("and", node, fact(open));
    }
    return node;
  }

  private Model.Node fact(int open) {
    int pick = random.nextInt(9);
    if (pick == 0) {
      return two("all", null, null);
    }
    if (pick == 1 && open < 6) {
      return two("not", fact(open + 1), null);
    }
    if (pick == 2 && open < 6) {
      return two("[]", test(open + 1), null);
    }
    return two("<>=".substring(pick % 3, pick % 3 + 1), sum(open), sum(open));
  }

  private Model.Node sum(int open) {
    Model.Node node = product(open);
    while (more()) {
      node = two(random.nextBoolean() ? "+" : "-", node, product(open));
    }
    return node;
  }

  private Model.Node product(int open) {
    Model.Node node = part(open);
    while (more()) {
      node = two(random.nextBoolean() ? "*" : "/", node, part(open));
    }
    return node;
  }

  private Model.Node part(int open) {
    int pick = random.nextInt(8);
    if (pick < 4) {
      return two(new String[] {"place", "leaf", "letter", "needs"}[pick], null, null);
    }
    if (pick == 4 && open < 5) {
      return two("()", sum(open + 1), null);
    }
    if (pick == 5 && open < 5) {
      return two(random.nextBoolean() ? "min" : "max", sum(open + 1), sum(open + 1));
    }
    return new Model.Node("N", random.nextInt(new int[] {3, 10, 30, 10000}[random.nextInt(4)]), null, null);
  }
}
