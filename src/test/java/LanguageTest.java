import java.io.IOException;
import java.lang.reflect.Constructor;
import java.lang.reflect.Field;
import java.lang.reflect.Member;
import java.lang.reflect.Method;
import java.lang.reflect.Modifier;
import java.nio.file.Files;
import java.nio.file.Path;
import java.util.ArrayList;
import java.util.HashSet;
import java.util.List;
import java.util.Set;
import java.util.TreeSet;

/** The rules of LANGUAGE.md that a look at the source or at the class can tell, and the face of the document. */
public final class LanguageTest {
  private static final String[] FACE = {"int feed(int,int,int,int,int)", "boolean end(int)", "int book()", "int fault(int)",
      "int has(int)", "int letter(int,int,int)", "int leaf(int,int)", "int sign(int,int,int)", "int reader(int,int)",
      "int read(int,int,int,int)", "int wipe(int,int,int)", "int write(int,int,int,int)", "int press(int,int)",
      "int seat(int,int)", "int hours(int)", "int run(int)", "boolean seed(int)", "int stood(int,int,int)", "int change(int,int)",
      "int altered(int,int)", "int span(int,boolean,int)", "int hire(int,int,int,int)", "int dries(int,int,int)",
      "int forge(int,int,int,int,int)", "int bars(int,int,int,int,int)", "int guard(int)", "long texts(int)",
      "int text(int,long,int)", "int could(int,int)", "long begins(int,int,int)", "int image()", "int octet(int)", "boolean on()"};
  private static final String[] FORBIDDEN = {"throw", "try", "catch", "synchronized", "assert", "package", "float", "double",
      "hashCode", "toString", "protected", "Exact", "System.out", "Thread", "Random", "Integer.MAX", "new ArrayList", "->", "::"};

  public static void main(String[] args) throws IOException {
    face();
    classes();
    source();
    room();
    Check.finish("LanguageTest");
  }

  private static String types(Class<?>[] types) {
    List<String> names = new ArrayList<>();
    for (Class<?> type : types) {
      names.add(type.getName());
    }
    return "(" + String.join(",", names) + ")";
  }

  private static void face() {
    Set<String> got = new TreeSet<>();
    for (Method method : WetInk.class.getDeclaredMethods()) {
      if (open(method)) {
        got.add(method.getReturnType().getName() + " " + method.getName() + types(method.getParameterTypes()));
        Check.due(method.getName() + " is public", Modifier.isPublic(method.getModifiers()), true);
      }
    }
    Check.due("the face: " + got, got.equals(new TreeSet<>(List.of(FACE))), true);
    for (Constructor<?> constructor : WetInk.class.getDeclaredConstructors()) {
      Check.due("the constructor is public", Modifier.isPublic(constructor.getModifiers()), true);
      Check.due("and takes nothing", constructor.getParameterCount(), 0);
    }
    for (Field field : WetInk.class.getDeclaredFields()) {
      Check.due(field.getName() + " may be seen", open(field), field.getName().equals("NONE"));
    }
    Check.due("NONE", WetInk.NONE, -1);
    int modifiers = WetInk.class.getModifiers();
    Check.due("public and final", Modifier.isPublic(modifiers) && Modifier.isFinal(modifiers), true);
  }

  private static boolean open(Member member) {
    return !Modifier.isPrivate(member.getModifiers()) && !member.isSynthetic();
  }

  private static void classes() {
    Set<String> names = new HashSet<>();
    for (String line : FACE) {
      names.add(line.substring(line.indexOf(' ') + 1, line.indexOf('(')));
    }
    List<Class<?>> all = new ArrayList<>(List.of(WetInk.class.getDeclaredClasses()));
    Check.due("some twelve classes", all.size() <= 11, true);
    for (Class<?> inside : all) {
      Check.due(inside + " is static", Modifier.isStatic(inside.getModifiers()), true);
      Check.due(inside + " is not public", Modifier.isPublic(inside.getModifiers()), false);
      for (Method method : inside.getDeclaredMethods()) {
        Check.due(inside + "." + method.getName() + " bears a name of the face", names.contains(method.getName()), false);
      }
    }
    all.add(WetInk.class);
    for (Class<?> each : all) {
      int fields = 0;
      for (Field field : each.getDeclaredFields()) {
        boolean fixed = Modifier.isStatic(field.getModifiers());
        fields += fixed ? 0 : 1;
        Check.due(field + " is static and not final", fixed && !Modifier.isFinal(field.getModifiers()), false);
      }
      Check.due(each + " has some twenty fields", fields <= 20, true);
      for (Method method : each.getDeclaredMethods()) {
        Check.due(method + " takes seven at most", method.getParameterCount() <= 7, true);
      }
    }
  }

  private static void source() throws IOException {
    String source = Files.readString(Path.of("src/main/java/WetInk.java"));
    String code = source.replaceAll("//[^\n]*", "").replaceAll("(?s)/\\*.*?\\*/", "").replaceAll("\"[^\"\n]*\"", "\"\"");
    for (String word : FORBIDDEN) {
      boolean there = Character.isLetter(word.charAt(0)) ? code.matches("(?s).*\\b" + word.replace(".", "\\.") + "\\b.*")
          : code.contains(word);
      Check.due("the source has " + word, there, false);
    }
    Check.due("only Arrays is imported", code.replace("import java.util.Arrays;", "").contains("import "), false);
    Check.due("signs above 127", source.chars().anyMatch(c -> c > 127), false);
    int start = 0;
    String[] lines = source.split("\n");
    for (int i = 0; i < lines.length; i++) {
      if (lines[i].matches("( {4}| {8})[a-zA-Z].*\\) \\{")) {
        start = i;
      }
      if (lines[i].matches("( {4}| {8})\\}")) {
        Check.due("too long a method at line " + (start + 1), i - start > 60, false);
      }
      Check.due("too long a line " + (i + 1), lines[i].length() > 120, false);
    }
  }

  /** All calls of a run share one room, so that no call may make anything: what the constructor made serves them all. */
  private static void room() {
    com.sun.management.ThreadMXBean threads =
        (com.sun.management.ThreadMXBean) java.lang.management.ManagementFactory.getThreadMXBean();
    long thread = Thread.currentThread().getId();
    long most = 0;
    for (int round = 0; round < 3; round++) {
      WetInk x = new WetInk();
      int[] bytes = Check.bytesOf("ink i eyes 3;leaf abcabcab ink i;leaf zz ink i;reader r pace 2 skips 2 pay 1;"
          + "reader s pace 2 skips 3 pay 1;word a;word bc;word c;word b;guard 4 1;eyes min(3,place)+1 when letter<3;");
      long before = threads.getThreadAllocatedBytes(thread);
      for (int i = 0; i + 20 <= bytes.length; i += 20) {
        x.feed(word(bytes, i), word(bytes, i + 4), word(bytes, i + 8), word(bytes, i + 12), word(bytes, i + 16));
      }
      x.feed(0x20202020, 0x20202020, 0x20202020, 0x20202020, 0x20202020);
      x.book();
      calls(x);
      most = threads.getThreadAllocatedBytes(thread) - before;
    }
    Check.due("bytes made by calls: " + most, most > 4096, false);
  }

  private static int word(int[] bytes, int at) {
    return bytes[at] << 24 | bytes[at + 1] << 16 | bytes[at + 2] << 8 | bytes[at + 3];
  }

  private static void calls(WetInk x) {
    for (int i = 0; i < 40; i++) {
      x.seat(i % 2, 0);
      x.hire(0, 0, 7, 0);
      x.dries(0, 0, 7);
      x.forge(0, 0, 7, 3, 150);
      x.bars(0, 0, 7, 3, 150);
      x.wipe(0, i % 8, i % 8);
      x.write(0, 1, 1 + i % 26, 0);
      x.press(0, 1);
      x.run(2);
      x.texts(0);
      x.text(0, 3, 2);
      x.could(0, 1);
      x.begins(0, 1, 1);
      x.altered(0, 0);
      x.stood(0, 1, 0);
      x.image();
      x.on();
      x.book();
    }
  }
}
