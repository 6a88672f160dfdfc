import java.io.IOException;
import java.nio.file.Files;
import java.nio.file.Path;
import java.util.Map;
import java.util.TreeMap;
import java.util.regex.Matcher;
import java.util.regex.Pattern;

/** README.md's words on the use of the class: its example answers what it says there, and it names all constants. */
public final class ReadmeTests {
  private static final Pattern EXAMPLE = Pattern.compile("(?m)^court\\.(\\w+)\\((.*)\\); +// (-?\\d+): ");
  private static final Pattern CONSTANT = Pattern.compile("(?m)^\\| `(\\w+)` (-\\d+) \\|");
  private static final String CONSTANTS = "{BIG=-5, CAST=-12, COLOUR=-16, FULL=-2, KIND=-6, LIE=-4, NONE=-1, "
      + "NOTHING=-11, NO_TREE=-7, PLACE=-13, SIZE=-14, STARTED=-3, THROWN=-15}";

  private static int wrong = 0;

  private ReadmeTests() { }

  private static void check(boolean good, String what) {
    if (!good) {
      wrong++;
      System.out.println("README.md: " + what);
    }
  }

  private static int example(String text) {
    CourtRun run = new CourtRun();
    Matcher line = EXAMPLE.matcher(text);
    int calls = 0;
    while (line.find()) {
      calls++;
      String fault = run.faultOf(line.group(1) + " " + line.group(2).replace(",", "") + " = " + line.group(3));
      check(fault.isEmpty(), fault);
    }
    check(calls == text.lines().filter(row -> row.startsWith("court.")).count(), "a call without its answer");
    return calls;
  }

  private static void constants(String text) {
    Map<String, String> named = new TreeMap<>();
    Matcher row = CONSTANT.matcher(text);
    while (row.find()) named.put(row.group(1), row.group(2));
    check(named.toString().equals(CONSTANTS), "the constants are " + named);
  }

  public static void main(String[] args) throws IOException {
    String text = Files.readString(Path.of(System.getProperty("pegcourt.readme", "README.md")));
    int calls = example(text);
    check(calls > 0, "no example");
    constants(text);
    check(text.contains("at most 512 calls"), "not for how many calls an object is used");
    System.out.println(calls + " calls of README.md, " + wrong + " faults");
    if (wrong != 0) System.exit(1);
  }
}
