/** Promises 19 to 22: what stood, changes, what is altered, the longest spans. */
public final class PastTest {
  public static void main(String[] args) {
    stood();
    kept();
    spans();
    Check.finish("PastTest");
  }

  private static void stood() {
    WetInk x = Check.told("ink a eyes 9;leaf abc ink a;leaf zz ink a;");
    x.write(0, 1, 7, 0);
    x.hours(2);
    x.write(0, 1, 8, 0);
    x.write(0, 1, 9, 0);
    x.hours(3);
    x.wipe(0, 0, 1);
    x.hours(1);
    x.write(0, 0, 1, 0);
    int[] second = {7, 7, 9, 9, 9, 0, 0};
    int[] first = {1, 1, 1, 1, 1, 0, 1};
    int[] altered = {1, 1, 1, 1, 1, 1, 0};
    for (int hour = 0; hour <= 6; hour++) {
      Check.due("stood(0, 1, " + hour + ")", x.stood(0, 1, hour), second[hour]);
      Check.due("stood(0, 0, " + hour + ")", x.stood(0, 0, hour), first[hour]);
      Check.due("stood(0, 2, " + hour + ")", x.stood(0, 2, hour), 3);
      Check.due("stood(1, 1, " + hour + ")", x.stood(1, 1, hour), 26);
      Check.due("altered(0, " + hour + ")", x.altered(0, hour), altered[hour]);
      Check.due("altered(1, " + hour + ")", x.altered(1, hour), 0);
    }
    Check.due("stood in hour 7", x.stood(0, 1, 7), -1);
    Check.due("stood in hour -1", x.stood(0, 1, -1), -1);
    Check.due("stood in place 3", x.stood(0, 3, 0), -1);
    Check.due("stood in place -1", x.stood(0, -1, 0), -1);
    Check.due("stood on leaf 2", x.stood(2, 0, 0), -1);
    Check.due("altered in hour 7", x.altered(0, 7), -1);
    Check.due("altered in hour -1", x.altered(0, -1), -1);
    Check.due("altered on leaf 2", x.altered(2, 0), -1);
    Check.due("altered on leaf -1", x.altered(-1, 0), -1);
    int[][] changes = {{0, 0, 1, 2}, {2, 0, 1, 7}, {2, 0, 1, 8}, {5, 0, 0, 1}, {5, 0, 1, 9}, {6, 0, 0, 0}};
    Check.due("changes", x.has(10), changes.length);
    for (int k = 0; k < changes.length; k++) {
      for (int what = 0; what < 4; what++) {
        Check.due("change(" + k + ", " + what + ")", x.change(k, what), changes[k][what]);
      }
    }
    Check.due("change(6, 0)", x.change(6, 0), -1);
    Check.due("change(-1, 0)", x.change(-1, 0), -1);
    Check.due("change(0, 4)", x.change(0, 4), -1);
    Check.due("change(0, -1)", x.change(0, -1), -1);
  }

  private static void kept() {
    WetInk x = Check.told("ink a eyes 9;leaf a ink a;leaf a ink a;");
    x.hours(1);
    x.write(1, 0, 2, 0);
    Check.due("what stood first", x.stood(1, 0, 0), 1);
    for (int i = 1; i <= 399; i++) {
      x.hours(1);
      x.write(0, 0, 1 + i % 26, 0);
    }
    Check.due("400 changes", x.has(10), 400);
    Check.due("the oldest", x.change(0, 1), 1);
    Check.due("what stood is still known", x.stood(1, 0, 0), 1);
    Check.due("altered by it", x.altered(1, 0), 1);
    x.hours(1);
    x.write(0, 0, 1 + 400 % 26, 0);
    Check.due("400 changes still", x.has(10), 400);
    Check.due("the oldest is gone", x.change(0, 1), 0);
    Check.due("its hour", x.change(0, 0), 2);
    Check.due("what stood is no longer known", x.stood(1, 0, 0), 2);
    Check.due("nor that it is altered", x.altered(1, 0), 0);
    Check.due("the newest", x.change(399, 0), 401);
    Check.due("what it was", x.change(399, 3), 1 + 399 % 26);
    for (int hour = 2; hour <= 401; hour++) {
      Check.due("stood in hour " + hour, x.stood(0, 0, hour), 1 + (hour - 1) % 26);
    }
    x.hours(1);
    x.write(0, 0, 26, 0);
    Check.due("the first change that is kept tells of hour 0", x.stood(0, 0, 0), 2);
  }

  private static void spans() {
    WetInk x = Check.told("ink a eyes 2;leaf abcdefghij ink a;");
    span(x, true, 0, 10);
    span(x, false, -1, 0);
    x.read(0, 3, 4, 2);
    span(x, true, 5, 5);
    span(x, false, 3, 2);
    x.wipe(0, 7, 7);
    span(x, true, 0, 3);
    x.read(0, 8, 9, 2);
    span(x, false, 3, 2);
    x.wipe(0, 0, 2);
    span(x, true, 5, 2);
    x.wipe(0, 5, 6);
    span(x, true, -1, 0);
    x.write(0, 2, 1, 0);
    x.read(0, 0, 9, 2);
    span(x, false, 2, 3);
    Check.due("span(0, true, 2)", x.span(0, true, 2), -1);
    Check.due("span(0, true, -1)", x.span(0, true, -1), -1);
    Check.due("span(1, true, 1)", x.span(1, true, 1), -1);
    Check.due("span(-1, true, 1)", x.span(-1, true, 1), -1);
  }

  private static void span(WetInk x, boolean wet, int first, int length) {
    Check.due("span(0, " + wet + ", 0)", x.span(0, wet, 0), first);
    Check.due("span(0, " + wet + ", 1)", x.span(0, wet, 1), length);
  }
}
