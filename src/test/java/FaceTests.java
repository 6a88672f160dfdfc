import java.io.IOException;
import java.lang.reflect.Constructor;
import java.lang.reflect.Field;
import java.lang.reflect.Method;
import java.lang.reflect.Modifier;
import java.nio.file.Files;
import java.nio.file.Path;
import java.util.ArrayList;
import java.util.List;
import java.util.Map;
import java.util.TreeMap;
import java.util.TreeSet;
import java.util.regex.Matcher;
import java.util.regex.Pattern;

/** The public face of the document, and those rules of LANGUAGE.md that can be seen from outside or in the text. */
public final class FaceTests {
  private static final String METHODS = "begin 2, law 2, enlist 1, lies 1, peg 2, show 1, hand 1, sort 0, answer 2, reply 1, "
      + "tell 1, undo 0, quarrel 1, turn 2, left 1, falses 1, part 2, among 1, like 2, least 1, sum 2, best 3, tree 2, "
      + "node 2, plan 3, drop 0, judge 0, total 0, rack 3, keep 1, clear 1, put 3, at 2, copy 5, take 2, kept 2, toss 1, "
      + "count 1";
  private static final String CONSTANTS = "NONE -1, FULL -2, STARTED -3, LIE -4, BIG -5, KIND -6, NO_TREE -7, "
      + "NOTHING -11, CAST -12, PLACE -13, SIZE -14, THROWN -15, COLOUR -16";
  private static final String[] FORBIDDEN = {"->", "::", "finally", "synchronized", "assert ", "Exact(", "Random",
    "currentTimeMillis", "nanoTime", "Thread", "getMessage", "hashCode", "NullPointer", "ClassCast", "ArrayIndex",
    "NegativeArray", "ArrayStore", "Throwable", "catch (Exception", "catch (RuntimeException", "catch (Arithmetic",
    "catch (IndexOutOfBounds", "lambda", "protected", "Integer.MAX_VALUE", "System.out", "new Object"};

  private static int wrong = 0;

  private FaceTests() { }

  private static void check(boolean good, String what) {
    if (!good) {
      wrong++;
      System.out.println("the face: " + what);
    }
  }

  private static Map<String, Integer> table(String text) {
    Map<String, Integer> table = new TreeMap<>();
    for (String row : text.split(", ")) table.put(row.split(" ")[0], Integer.parseInt(row.split(" ")[1]));
    return table;
  }

  private static void methods() {
    Map<String, Integer> want = table(METHODS);
    Map<String, Integer> got = new TreeMap<>();
    for (Method m : PegCourt.class.getDeclaredMethods()) {
      if (Modifier.isPrivate(m.getModifiers())) {
        check(!want.containsKey(m.getName()), "the private method " + m.getName() + " bears a public name");
        continue;
      }
      check(got.put(m.getName(), m.getParameterCount()) == null, m.getName() + " stands twice");
      check(Modifier.isPublic(m.getModifiers()) && !Modifier.isStatic(m.getModifiers()), m + " is not just public");
      check(m.getReturnType() == int.class, m + " answers no int");
      for (Class<?> type : m.getParameterTypes()) check(type == int.class, m + " takes another type than int");
      List<Class<?>> thrown = List.of(m.getExceptionTypes());
      check(m.getName().equals("at") ? thrown.equals(List.of(IllegalArgumentException.class, IllegalStateException.class))
          : thrown.isEmpty(), m + " declares other exceptions");
    }
    check(got.equals(want), "methods are " + got + ", due are " + want);
  }

  private static void constants() throws IllegalAccessException {
    Map<String, Integer> got = new TreeMap<>();
    for (Field f : PegCourt.class.getDeclaredFields()) {
      int m = f.getModifiers();
      if (Modifier.isStatic(m)) check(Modifier.isFinal(m), f + " is static and not final");
      if (Modifier.isPrivate(m)) continue;
      check(Modifier.isPublic(m) && Modifier.isStatic(m) && f.getType() == int.class, f + " is no public constant");
      got.put(f.getName(), f.getInt(null));
    }
    check(got.equals(table(CONSTANTS)), "constants are " + got);
  }

  private static void classes() {
    int m = PegCourt.class.getModifiers();
    check(Modifier.isPublic(m) && Modifier.isFinal(m), "the class is not public and final");
    Constructor<?>[] constructors = PegCourt.class.getDeclaredConstructors();
    check(constructors.length == 1 && constructors[0].getParameterCount() == 0
        && Modifier.isPublic(constructors[0].getModifiers()), "not just the one public constructor");
    Class<?>[] inside = PegCourt.class.getDeclaredClasses();
    check(inside.length <= 12, "too many classes");
    TreeSet<String> face = new TreeSet<>(table(METHODS).keySet());
    for (Class<?> c : inside) {
      check(Modifier.isStatic(c.getModifiers()) && !Modifier.isPublic(c.getModifiers()), c + " is not static and hidden");
      int fields = 0;
      for (Field f : c.getDeclaredFields()) {
        if (!Modifier.isStatic(f.getModifiers())) fields++;
        else check(Modifier.isFinal(f.getModifiers()), f + " is static and not final");
      }
      check(fields <= 20, c + " has " + fields + " fields");
      for (Method method : c.getDeclaredMethods()) {
        check(method.getParameterCount() <= 7, method + " takes more than seven");
        check(!face.contains(method.getName()), method + " bears a name of the face");
      }
    }
  }

  private static void text() throws IOException {
    String source = Files.readString(Path.of(System.getProperty("pegcourt.source", "src/main/java/PegCourt.java")));
    for (char c : source.toCharArray()) check(c == '\n' || c >= 32 && c < 127, "a sign " + (int) c + " in the text");
    for (String word : FORBIDDEN) check(!source.contains(word), "the text has '" + word + "'");
    List<String> imports = new ArrayList<>();
    Matcher importing = Pattern.compile("(?m)^(import|package) ([^;]*);").matcher(source);
    while (importing.find()) imports.add(importing.group(2));
    check(imports.equals(List.of("java.util.Arrays")), "imports are " + imports);
    Matcher used = Pattern.compile("\\b(Arrays|System|Integer|Long|Math|String|Object)\\.(\\w+)").matcher(source);
    TreeSet<String> library = new TreeSet<>();
    while (used.find()) library.add(used.group());
    check(List.of("Arrays.fill", "Integer.bitCount", "Math.max", "Math.min", "System.arraycopy").containsAll(library),
        "the library used is " + library);
    Matcher filled = Pattern.compile("Arrays\\.fill\\((\\w+)").matcher(source);
    while (filled.find()) {
      check(!source.contains("boolean[] " + filled.group(1) + " "), "Arrays.fill over booleans: " + filled.group(1));
    }
    int start = 0, line = 0;
    for (String row : source.split("\n")) {
      line++;
      if (row.matches(" {4,8}(public|private) .*\\) .*\\{")) start = line;
      if (row.matches(" {4,8}\\}")) check(line - start <= 60 || start == 0, "a method of over 60 lines ends in line " + line);
      if (row.matches(" {4,8}\\}")) start = 0;
      check(row.length() <= 120, "line " + line + " is long");
    }
  }

  /** Rows and objects are made with the object alone: in what a field begins with, or in a constructor. */
  private static void makings() throws IOException {
    String source = Files.readString(Path.of(System.getProperty("pegcourt.source", "src/main/java/PegCourt.java")));
    Pattern member = Pattern.compile(" {4,8}(public|private) ([^(=;]*)\\(.*\\{");
    boolean making = false;
    int line = 0;
    for (String row : source.split("\n")) {
      line++;
      Matcher head = member.matcher(row);
      if (head.matches()) making = head.group(2).matches("[A-Z]\\w*");
      if (row.matches(" *(/?\\*|//).*")) continue;
      boolean field = row.matches(" {4,8}private (static )?final .* = .*;");
      check(field || making || !row.replace("throw new", "").matches(".*(\\bnew\\b|\\.clone\\(|copyOf).*"),
          "line " + line + " makes an object in a call");
    }
  }

  public static void main(String[] args) throws Exception {
    methods();
    constants();
    classes();
    text();
    makings();
    System.out.println(wrong == 0 ? "the face is as due" : wrong + " faults of the face");
    if (wrong != 0) System.exit(1);
  }
}
