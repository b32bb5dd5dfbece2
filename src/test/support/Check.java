import java.util.Arrays;
import java.util.HashSet;
import java.util.Set;

/** What the project's tests share: a tally of answers, and texts and bytes put on an object's tape. */
final class Check {
  private static int answers = 0;
  private static int wrong = 0;
  private static String sentence = "";
  private static final Set<String> SENTENCES = new HashSet<>();

  private Check() {
  }

  static void due(String call, long got, long want) {
    answers++;
    if (got != want) {
      wrong++;
      if (wrong <= 40) {
        System.out.println(sentence + call + " answered " + got + ", due is " + want);
      }
    }
  }

  /** What follows is asked of this sentence of the document: a wrong answer tells it. */
  static void of(String words) {
    sentence = "[" + words + "] ";
    SENTENCES.add(words);
  }

  /** Whether something was asked of a sentence that begins so. */
  static boolean asked(String words) {
    return SENTENCES.stream().anyMatch(s -> s.startsWith(words));
  }

  static void due(String call, boolean got, boolean want) {
    due(call, got ? 1 : 0, want ? 1 : 0);
  }

  static void finish(String name) {
    System.out.println(name + ": " + answers + " answers, " + wrong + " wrong");
    if (wrong != 0 || answers == 0) {
      System.exit(1);
    }
  }

  /** Puts bytes behind those on the tape; feed takes twenty at once, so the rest is cut off again. */
  static void put(WetInk x, int[] bytes, int before) {
    for (int at = 0; at < bytes.length; at += 20) {
      int[] five = new int[5];
      for (int k = 0; k < 20; k++) {
        int value = at + k < bytes.length ? bytes[at + k] & 255 : 32;
        five[k / 4] = five[k / 4] << 8 | value;
      }
      x.feed(five[0], five[1], five[2], five[3], five[4]);
    }
    due("end behind put", x.end(before + bytes.length), true);
  }

  static int[] bytesOf(String text) {
    int[] bytes = new int[text.length()];
    for (int i = 0; i < bytes.length; i++) {
      bytes[i] = text.charAt(i);
    }
    return bytes;
  }

  static int tell(WetInk x, String text) {
    put(x, bytesOf(text), 0);
    return x.book();
  }

  static WetInk told(String text) {
    WetInk x = new WetInk();
    int statements = tell(x, text);
    due("book of " + text, x.fault(0), 0);
    due("fault's place of " + text, x.fault(1), -1);
    due("statements of " + text, statements, text.chars().filter(c -> c == ';').count());
    return x;
  }

  /** The text must have that fault, and leave all that was there. */
  static void faulty(String text, int fault, int place) {
    WetInk x = told("ink q eyes 3;leaf abc ink q;");
    x.hours(4);
    due("book of " + text, tell(x, text), -1);
    due("fault of " + text, x.fault(0), fault);
    due("fault's place of " + text, x.fault(1), place);
    due("leaves stay behind " + text, x.has(1), 1);
    due("signs stay behind " + text, x.leaf(0, 6), 9);
    due("the hour stays behind " + text, x.has(5), 4);
    due("the tape goes behind " + text, x.feed(0, 0, 0, 0, 0), 20);
  }

  /** All that can be asked of an object without doing anything to it. */
  static int[] stateOf(WetInk x) {
    int[] state = new int[20000];
    int n = 0;
    for (int what = 0; what <= 10; what++) {
      state[n++] = x.has(what);
    }
    for (int kind = 0; kind < 3; kind++) {
      for (int which = 0; which < 16; which++) {
        for (int k = 0; k < 12; k++) {
          state[n++] = x.letter(kind, which, k);
        }
      }
    }
    for (int leaf = 0; leaf < x.has(1); leaf++) {
      for (int place = 0; place < x.leaf(leaf, 0); place++) {
        for (int what = 0; what < 4; what++) {
          state[n++] = x.sign(leaf, place, what);
        }
        state[n++] = x.stood(leaf, place, 0);
        state[n++] = x.hire(leaf, place, place, 1);
        state[n++] = x.could(leaf, place);
      }
    }
    for (int reader = 0; reader < x.has(2); reader++) {
      for (int what = 0; what < 3; what++) {
        state[n++] = x.reader(reader, what);
      }
    }
    for (int k = 0; k < x.has(10); k++) {
      for (int what = 0; what < 4; what++) {
        state[n++] = x.change(k, what);
      }
    }
    for (int hour = 0; hour < 100; hour++) {
      state[n++] = x.guard(hour);
    }
    return Arrays.copyOf(state, n);
  }

  static void same(String name, int[] got, int[] want) {
    due(name + ": how long", got.length, want.length);
    for (int k = 0; k < got.length && k < want.length; k++) {
      due(name + ": number " + k, got[k], want[k]);
    }
  }

  static int[] imageOf(WetInk x) {
    int[] bytes = new int[x.image()];
    for (int k = 0; k < bytes.length; k++) {
      bytes[k] = x.octet(k);
    }
    return bytes;
  }

  static int checkOf(int[] bytes, int end) {
    int c = 57;
    for (int k = 0; k < end; k++) {
      c = (3 * c + bytes[k]) % 239;
    }
    return c;
  }

  static String times(String text, int n) {
    return text.repeat(n);
  }
}
