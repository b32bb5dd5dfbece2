import java.io.IOException;
import java.nio.file.Files;
import java.nio.file.Path;

/** What README.md says of its examples: each line stands there, and answers what is told beside it. */
public final class ReadmeTest {
  private static String page;

  public static void main(String[] args) throws IOException {
    page = Files.readString(Path.of("README.md"));
    first();
    longer();
    calls();
    Check.finish("ReadmeTest");
  }

  private static void line(String told, long got, long want) {
    Check.due("README.md has " + told, page.contains(told), true);
    Check.due(told, got, want);
  }

  private static void first() {
    WetInk x = new WetInk();
    line("x.feed(0x696e6b20, 0x69206579, 0x65732032, 0x3b6c6561, 0x66206120);   // \"ink i eyes 2;leaf a \"",
        x.feed(0x696e6b20, 0x69206579, 0x65732032, 0x3b6c6561, 0x66206120), 20);
    line("x.feed(0x696e6b20, 0x693b2020, 0x20202020, 0x20202020, 0x20202020);   // \"ink i;\" and blanks",
        x.feed(0x696e6b20, 0x693b2020, 0x20202020, 0x20202020, 0x20202020), 40);
    line("x.end(26);           // the blanks go again", x.end(26) ? 1 : 0, 1);
    line("x.book();            // 2 statements", x.book(), 2);
    line("x.read(0, 0, 0, 2);  // two eyes go over the first sign of the first leaf: 1 came to be dry", x.read(0, 0, 0, 2), 1);
    line("x.sign(0, 0, 2);     // dry since hour 0", x.sign(0, 0, 2), 0);
    line("x.wipe(0, 0, 0);     // NONE", x.wipe(0, 0, 0), WetInk.NONE);
    line("x.image();           // 6 bytes, which octet(0) to octet(5) tell", x.image(), 6);
    int[] bytes = Check.imageOf(x);
    Check.due("octet(6)", x.octet(6), WetInk.NONE);
    Check.put(x, bytes, 0);
    line("fed to the tape, they are taken by on()", x.on() ? 1 : 0, 1);
  }

  private static void longer() {
    String text = "ink slow eyes 5; leaf theinkiswet ink slow;\nreader eve pace 4 skips 3 pay 2; word ink;";
    WetInk x = new WetInk();
    tell(x, text);
    Check.due("a longer text", x.book(), 4);
    Check.due("its leaf", x.leaf(0, 0), 11);
    line("x.feed(five[0], five[1], five[2], five[3], five[4]);", x.seat(0, 0), 3);
  }

  // As README.md has it.
  static void tell(WetInk x, String text) {
    for (int at = 0; at < text.length(); at += 20) {
      int[] five = new int[5];
      for (int k = 0; k < 20; k++) {
        five[k / 4] = five[k / 4] << 8 | (at + k < text.length() ? text.charAt(at + k) : ' ');
      }
      x.feed(five[0], five[1], five[2], five[3], five[4]);
    }
    x.end(text.length());
  }

  private static void calls() {
    for (java.lang.reflect.Method method : WetInk.class.getMethods()) {
      if (method.getDeclaringClass() == WetInk.class) {
        Check.due("README.md names " + method.getName(), page.contains("`" + method.getName() + "`"), true);
      }
    }
  }
}
