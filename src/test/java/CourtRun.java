/**
 * A new court that is asked by texts, each a call with the answer that is due: "begin 3 3 = 27". MAX and MIN are the
 * greatest and the least int; ARGUMENT and STATE are the exceptions of at().
 */
final class CourtRun {
  /** The document promises nothing of an object behind these. */
  private static final int MOST_CALLS = 512;

  private final PegCourt court = new PegCourt();
  private int calls = 0;

  int answerTo(String call) {
    String[] words = call.trim().split(" ");
    int[] numbers = new int[words.length - 1];
    for (int i = 0; i < numbers.length; i++) numbers[i] = number(words[i + 1]);
    calls++;
    if (calls > MOST_CALLS) throw new AssertionError("a test of over " + MOST_CALLS + " calls: " + call);
    return CourtCalls.call(court, words[0], numbers);
  }

  /** What is wrong with a call's answer, or nothing. */
  String faultOf(String callAndDue) {
    String call = callOf(callAndDue);
    String answered;
    try {
      int got = answerTo(call);
      if (got == dueOf(callAndDue)) return "";
      answered = " answered " + got;
    } catch (RuntimeException e) {
      answered = " threw " + e;
    }
    return call + answered + ", due is " + dueOf(callAndDue);
  }

  static String callOf(String callAndDue) {
    return callAndDue.split(" = ")[0].trim();
  }

  static int dueOf(String callAndDue) {
    return number(callAndDue.split(" = ")[1].trim());
  }

  private static int number(String word) {
    switch (word) {
      case "MAX": return Integer.MAX_VALUE;
      case "MIN": return Integer.MIN_VALUE;
      case "ARGUMENT": return PlainCourt.ARGUMENT;
      case "STATE": return PlainCourt.STATE;
      default: return Integer.parseInt(word);
    }
  }

  /** The calls of a text, which are parted by ";". */
  static String[] callsOf(String... texts) {
    return java.util.Arrays.stream(String.join(";", texts).split(";")).map(String::trim)
        .filter(call -> !call.isEmpty()).toArray(String[]::new);
  }

  /** A call for each number THIS of from .. to - 1; NEXT is 1 more. */
  static String repeated(int from, int to, String call) {
    StringBuilder text = new StringBuilder();
    for (int i = from; i < to; i++) {
      text.append(call.replace("NEXT", String.valueOf(i + 1)).replace("THIS", String.valueOf(i))).append(';');
    }
    return text.toString();
  }
}
