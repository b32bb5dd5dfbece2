import java.util.ArrayDeque;
import java.util.ArrayList;
import java.util.Deque;
import java.util.HashMap;
import java.util.HashSet;
import java.util.List;
import java.util.Map;
import java.util.Set;
import java.util.regex.Matcher;
import java.util.regex.Pattern;

/** A second way to find a text's fault: tokens first, then a stack of what may come, opened by the grammar's lines. */
final class Faults {
  private static final Set<String> OWN = Set.of("ink", "eyes", "leaf", "reader", "pace", "skips", "pay", "when", "word",
      "guard", "or", "and", "not", "all", "place", "letter", "needs", "min", "max");
  private static final Map<String, Integer> MOST = Map.of("ink", 6, "leaf", 8, "reader", 4, "eyes", 8, "word", 16, "guard", 99);
  private static final Map<String, String> LINES = Map.of(
      "ink", "ink NEWINK eyes 1-20",
      "leaf", "leaf SPELL64 ink OLDINK",
      "reader", "reader NEWREADER pace 1-64 skips SKIPS pay 0-99",
      "eyes", "eyes SUM when TEST",
      "word", "word WORD12",
      "guard", "guard EVERY FROM");

  final int fault;
  final int place;
  int statements;

  private final String text;
  private final List<String> tokens = new ArrayList<>();
  private final List<Integer> starts = new ArrayList<>();
  private final Deque<String> stack = new ArrayDeque<>();
  private final Set<String> inks = new HashSet<>();
  private final Set<String> names = new HashSet<>();
  private final Set<String> words = new HashSet<>();
  private final Map<String, Integer> told = new HashMap<>();
  private int open = 0;
  private int every = 0;

  Faults(String text) {
    this.text = text;
    Matcher matcher = Pattern.compile("[a-z]+|[0-9]+|[^ \n]").matcher(text);
    while (matcher.find()) {
      tokens.add(matcher.group());
      starts.add(matcher.start());
    }
    int[] found = {0, -1};
    stack.push("BOOK");
    int i = 0;
    while (!stack.isEmpty() && found[0] == 0) {
      String top = stack.pop();
      String token = i < tokens.size() ? tokens.get(i) : "";
      int start = i < tokens.size() ? starts.get(i) : text.length();
      boolean joined = i > 0 && i < tokens.size() && isRow(token) && isRow(tokens.get(i - 1))
          && starts.get(i - 1) + tokens.get(i - 1).length() == start;
      if (top.equals("CLOSE")) {
        open--;
      } else if (!opens(top, joined ? "\0" : token, start, found)) {
        if (found[0] == 0) {
          int past = terminal(top, joined ? "\0" : token, found);
          if (found[0] != 0) {
            found[1] = start + past;
          }
          i++;
        }
      }
    }
    fault = found[0];
    place = found[1];
  }

  private static boolean isRow(String token) {
    return token.matches("[a-z]+|[0-9]+");
  }

  private void push(String line) {
    String[] parts = line.split(" ");
    for (int k = parts.length - 1; k >= 0; k--) {
      if (!parts[k].isEmpty()) {
        stack.push(parts[k]);
      }
    }
  }

  /** Puts a line of the grammar in place of its name; false for what is no such name. */
  private boolean opens(String top, String token, int start, int[] found) {
    switch (top) {
      case "BOOK":
        if (!token.isEmpty()) {
          if (statements == 80) {
            fail(found, 5, start);
          } else if (!LINES.containsKey(token)) {
            fail(found, 1, start);
          } else if (told.merge(token, 1, Integer::sum) > MOST.get(token)) {
            fail(found, 5, start);
          } else {
            statements++;
            push(LINES.get(token) + " ; BOOK");
          }
        }
        return true;
      case "TEST": push("BOTH ORS"); return true;
      case "ORS": push(token.equals("or") ? "or BOTH ORS" : ""); return true;
      case "BOTH": push("FACT ANDS"); return true;
      case "ANDS": push(token.equals("and") ? "and FACT ANDS" : ""); return true;
      case "FACT":
        if (token.equals("not")) {
          opened(found, start, "not FACT CLOSE");
        } else if (token.equals("[")) {
          opened(found, start, "[ TEST ] CLOSE");
        } else {
          push(token.equals("all") ? "all" : "SUM SIGN SUM");
        }
        return true;
      case "SUM": push("PRODUCT ADDS"); return true;
      case "ADDS": push(token.equals("+") || token.equals("-") ? token + " PRODUCT ADDS" : ""); return true;
      case "PRODUCT": push("PART TIMES"); return true;
      case "TIMES": push(token.equals("*") || token.equals("/") ? token + " PART TIMES" : ""); return true;
      case "PART":
        if (token.equals("(")) {
          opened(found, start, "( SUM ) CLOSE");
        } else if (token.equals("min") || token.equals("max")) {
          push(token + " PAIR");
        } else {
          push(Set.of("place", "leaf", "letter", "needs").contains(token) ? token : "0-9999");
        }
        return true;
      case "PAIR":
        if (token.equals("(")) {
          opened(found, start, "( SUM , SUM ) CLOSE");
        } else {
          fail(found, 1, start);
        }
        return true;
      default: return false;
    }
  }

  private void opened(int[] found, int start, String line) {
    open++;
    if (open == 7) {
      fail(found, 4, start);
    }
    push(line);
  }

  private static void fail(int[] found, int fault, int place) {
    found[0] = fault;
    found[1] = place;
  }

  /** Sets the fault, if there is one, and gives how far behind the token's start it is. */
  private int terminal(String top, String token, int[] found) {
    boolean letters = token.matches("[a-z]+");
    boolean digits = token.matches("[0-9]+");
    int most = top.endsWith("64") ? 64 : top.endsWith("12") ? 12 : 6;
    if (Set.of("NEWINK", "NEWREADER", "OLDINK", "SPELL64", "WORD12").contains(top) && !top.contains("-")) {
      if (!letters || most == 6 && OWN.contains(token)) {
        found[0] = 1;
      } else if (token.length() > most) {
        found[0] = 1;
        return most;
      } else if (top.startsWith("NEW") && !names.add(token) || top.equals("OLDINK") && !inks.contains(token)
          || top.equals("WORD12") && !words.add(token)) {
        found[0] = 3;
      } else if (top.equals("NEWINK")) {
        inks.add(token);
      }
      return 0;
    }
    if (Set.of("SKIPS", "EVERY", "FROM").contains(top) || top.matches("[0-9]+-[0-9]+")) {
      if (!digits) {
        found[0] = 1;
      } else if (token.length() > 4) {
        found[0] = 1;
        return 4;
      } else if (!fits(top, Integer.parseInt(token))) {
        found[0] = 2;
      }
      return 0;
    }
    if (top.equals("SIGN") ? !Set.of("<", ">", "=").contains(token) : !top.equals(token)) {
      found[0] = 1;
    }
    return 0;
  }

  private boolean fits(String top, int n) {
    switch (top) {
      case "SKIPS": return n == 0 || n >= 2 && n <= 9;
      case "EVERY":
        every = n;
        return n >= 1 && n <= 99;
      case "FROM": return n >= 0 && n <= 98 && n < every;
      default:
        String[] ends = top.split("-");
        return n >= Integer.parseInt(ends[0]) && n <= Integer.parseInt(ends[1]);
    }
  }
}
