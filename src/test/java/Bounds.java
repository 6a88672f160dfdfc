import java.util.ArrayList;
import java.util.HashMap;
import java.util.List;
import java.util.Map;

/**
 * What the tests of the document's boundary sentences share. A test names where its sentence stands and the sentence's
 * words, and then asks: by runs on new courts, by calls that must be refused and leave all as it was, and by states
 * that must be alike in all that can be seen of them.
 */
final class Bounds {
  /** 00, 11, 22, 33 of 2 places and 8 colours: codes that no guess tells apart well. */
  static final String FOUR_DOUBLES =
      "begin 2 8 = 64; enlist 0 = 1; enlist 9 = 2; enlist 18 = 3; enlist 27 = 4; law 3 0 = 4;";
  /** A row of each sort, kept guesses without and with a blank; shelf 5 holds nothing. It needs FOUR_DOUBLES. */
  private static final String SHELVED = "rack 0 1 6 = 6; put 0 0 3 = 0; put 0 1 -1 = 0; put 0 5 8 = 0;"
      + "rack 1 2 6 = 6; put 1 1 65535 = 0; put 1 2 2 = 0; rack 2 3 4 = 4; put 2 3 -300 = 0;"
      + "show 9 = 1; keep 3 = 1; peg 0 -1 = 1; keep 4 = 3;";
  /** Something of everything, but no turns yet: codes, tree, plan, quarrel, shelves, a refusal of the host's. */
  static final String SET = FOUR_DOUBLES + SHELVED + "tree 0 3 = 5;"
      + "plan -1 0 0 = 0; plan 0 0 9 = 1; plan 1 0 18 = 2; plan 2 0 27 = 3;"
      + "show 1 = 0; tell 20 = -4; hand 2 = -13; peg 1 -1 = 1;";
  /** The same with two turns. */
  static final String MIDDLE = SET + "show 63 = 0; tell 0 = 4; peg 1 -1 = 7; tell 0 = 4;";
  /** The same with a lie allowed, and one told. */
  static final String LYING = SET + "lies 1 = 0; show 0 = 1; tell 0 = 4; tell 20 = 4;";

  private static final int FIRST_OF_HOST = -11, LAST_OF_HOST = -15, LIE = -4;

  private static final String PLAY_SEEN = numbered("count", -1, 13) + numbered("hand", 0, 5) + "sort;"
      + numbered("quarrel", -1, 11) + numbered("among", 0, 4) + "least 0; least 1; judge; total;"
      + table("turn", 10, 0, 7);
  private static final String TREE_SEEN = table("node", 20, 0, 5) + "drop;";
  private static final String SHELVES_SEEN = table("at", 6, 0, 8) + table("at", 6, 59, 61) + table("kept", 6, 0, 9)
      + numbered("clear", 0, 6);
  private static final String CODES_SEEN = numbered("left", 0, 30) + numbered("reply", 0, 64) + table("part", 16, 0, 2);
  private static final String FALSES_SEEN = numbered("falses", 0, 64) + "sum 0 0; tree 1 0; node 0 0; best 0 0 0;";
  /** What law and list were behind the turns; this part changes the court. */
  private static final String LAW_SEEN = "undo;".repeat(11) + numbered("left", 0, 70)
      + "lies 0; law 3 0; judge; count 4;" + numbered("left", 0, 40) + "law 0 0; count 4;";
  /** In parts, since no object is asked more than 512 times. */
  private static final String[] PLAY_PARTS = {PLAY_SEEN, TREE_SEEN, CODES_SEEN, FALSES_SEEN, LAW_SEEN};

  private static final Map<String, List<String>> NAMED = new HashMap<>();
  private static final Map<String, int[]> SEEN = new HashMap<>();
  private static String section = "";
  private static String sentence = "";
  private static int sentences = 0;
  private static int askedInAll = 0;
  private static int askedOfSentence = 1;
  private static int wrong = 0;

  private Bounds() { }

  private static String numbered(String name, int from, int to) {
    return CourtRun.repeated(from, to, name + " THIS");
  }

  private static String table(String name, int rows, int from, int to) {
    StringBuilder text = new StringBuilder();
    for (int row = 0; row < rows; row++) text.append(numbered(name + " " + row, from, to));
    return text.toString();
  }

  /** The way to a state in which just these codes are left. */
  static String listed(int places, int colours, int... codes) {
    StringBuilder text = new StringBuilder("begin " + places + " " + colours + " = " + (int) Math.pow(colours, places));
    for (int i = 0; i < codes.length; i++) text.append("; enlist ").append(codes[i]).append(" = ").append(i + 1);
    return text + "; law 3 0 = " + codes.length + ";";
  }

  /** Where the next sentences stand in the document: "Terms", "Promise 1" .. */
  static void in(String where) {
    section = where;
  }

  /** Begins the test of one sentence, which is named by its words. */
  static void says(String words) {
    mustHaveAsked();
    sentence = words;
    askedOfSentence = 0;
    sentences++;
    NAMED.computeIfAbsent(section, s -> new ArrayList<>()).add(words);
  }

  private static void mustHaveAsked() {
    if (askedOfSentence == 0) fault("nothing is asked");
  }

  private static void asked() {
    askedInAll++;
    askedOfSentence++;
  }

  private static void fault(String what) {
    wrong++;
    System.out.println(section + ", \"" + sentence + "\": " + what);
  }

  /** Calls on a new court, each with the answer that is due. */
  static void run(String... texts) {
    CourtRun court = new CourtRun();
    for (String call : CourtRun.callsOf(texts)) ask(court, call);
  }

  static void ask(CourtRun court, String call) {
    asked();
    String fault = court.faultOf(call);
    if (!fault.isEmpty()) fault(fault);
  }

  /**
   * Each of the calls alone, on a new court that has come to a state: it answers what is due, and behind it the court
   * is what it was, but for the count of the host's refusals, and the quarrel that LIE keeps.
   */
  static void refused(String state, String... calls) {
    for (String call : calls) {
      int due = CourtRun.dueOf(call);
      boolean ofHost = due <= FIRST_OF_HOST && due >= LAST_OF_HOST;
      run(state, call);
      for (String part : PLAY_PARTS) sameSeen(state, state + call + ";", part, ofHost ? 1 : 0, due == LIE);
      sameSeen(state, state + call + ";", SHELVES_SEEN, 0, false);
    }
  }

  /** Two ways to come to one state: all that can be seen of it is the same, but perhaps what the shelves hold. */
  static void alike(String way, String otherWay) {
    for (String part : PLAY_PARTS) sameSeen(way, otherWay, part, 0, false);
  }

  static void shelvesAlike(String way, String otherWay) {
    sameSeen(way, otherWay, SHELVES_SEEN, 0, false);
  }

  private static void sameSeen(String way, String otherWay, String part, int moreRefusals, boolean newQuarrel) {
    int[] due = seen(way, part);
    int[] got = seen(otherWay, part);
    String[] looks = CourtRun.callsOf(part);
    for (int i = 0; i < looks.length; i++) {
      asked();
      int more = looks[i].equals("count 12") ? moreRefusals : 0;
      if (got[i] != due[i] + more && !(newQuarrel && looks[i].startsWith("quarrel"))) {
        String answered = looks[i] + " answered " + got[i] + ", due is " + (due[i] + more);
        fault("behind " + lastCallOf(otherWay) + ": " + answered);
        return;
      }
    }
  }

  private static String lastCallOf(String way) {
    String[] calls = CourtRun.callsOf(way);
    return calls.length == 0 ? "nothing" : calls[calls.length - 1];
  }

  private static int[] seen(String way, String part) {
    return SEEN.computeIfAbsent(way + " | " + part, key -> look(way, part));
  }

  private static int[] look(String way, String part) {
    CourtRun court = new CourtRun();
    for (String call : CourtRun.callsOf(way)) court.answerTo(CourtRun.callOf(call));
    String[] looks = CourtRun.callsOf(part);
    int[] seen = new int[looks.length];
    for (int i = 0; i < looks.length; i++) seen[i] = court.answerTo(looks[i]);
    return seen;
  }

  static Map<String, List<String>> named() {
    return NAMED;
  }

  /** How many answers were not as due. */
  static int faults() {
    mustHaveAsked();
    System.out.println(sentences + " boundary sentences, " + askedInAll + " answers asked for, " + wrong
        + " not as due");
    return wrong;
  }
}
