import java.io.IOException;
import java.nio.file.Files;
import java.nio.file.Path;
import java.util.List;
import java.util.Map;

/**
 * Each sentence of "Terms" and of the promises that names a boundary case has a test of its own: the value just inside
 * the bound and just outside it, the empty and the full state, what a refused call answers and leaves as it was. The
 * sentences are named by their words, and no word of the document may be left without a test.
 */
public final class BoundaryTests {
  /** What of the sections is no sentence: their headings. */
  private static final List<String> HEADINGS =
      List.of("CODES.", "==== II. THE PLAY.", "==== III. TREES.", "==== IV.", "==== V.");

  private BoundaryTests() { }

  public static void main(String[] args) throws IOException {
    TermsBounds.all();
    PlayBounds.all();
    TreesBounds.all();
    ShelvesBounds.all();
    int wrong = Bounds.faults();
    Path document = Path.of(System.getProperty("pegcourt.document", "../shared/DOC.md"));
    if (Files.exists(document)) wrong += faultsOfNames(Files.readString(document));
    else System.out.println(document + " is not there: the sentences' names are not compared with it");
    if (wrong != 0) System.exit(1);
  }

  private static int faultsOfNames(String document) {
    int wrong = 0;
    Map<String, List<String>> named = Bounds.named();
    for (String section : named.keySet()) {
      String text = textOf(section, document);
      for (String words : named.get(section)) {
        if (!text.contains(words)) {
          wrong++;
          System.out.println(section + " does not say \"" + words + "\"");
        }
      }
    }
    for (int k = 0; k <= 39; k++) {
      String section = k == 0 ? "Terms" : "Promise " + k;
      String rest = untested(textOf(section, document), named.getOrDefault(section, List.of()));
      if (!rest.isEmpty()) {
        wrong++;
        System.out.println(section + ": no test names \"" + rest + "\"");
      }
    }
    return wrong;
  }

  /** A section's words in one line, without the face of the method. */
  private static String textOf(String section, String document) {
    for (String part : document.split("(?m)^## ")) {
      String heading = part.split("\n")[0];
      if (heading.equals(section) || heading.startsWith(section + ":")) {
        return part.substring(heading.length()).replaceAll("`[^`]*`:", "").replaceAll("\\s+", " ").trim();
      }
    }
    return "";
  }

  private static String untested(String text, List<String> named) {
    String rest = text;
    for (String words : named) rest = rest.replace(words, "|");
    for (String heading : HEADINGS) rest = rest.replace(heading, "|");
    return rest.replaceAll("[|\\s]+", " ").trim();
  }
}
