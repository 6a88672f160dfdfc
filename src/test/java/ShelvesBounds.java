/** The sentences of promises 30 to 39 that name a boundary case. */
final class ShelvesBounds {
  private static final String[] NO_SHELVES = {"-1", "6", "MAX", "MIN"};

  private ShelvesBounds() { }

  static void all() {
    rack();
    keep();
    clear();
    put();
    at();
    copy();
    take();
    kept();
    toss();
    count();
  }

  private static String repeated(int from, int to, String call) {
    return CourtRun.repeated(from, to, call);
  }

  /** The call refused for each number that is no shelf's. */
  private static void noShelf(String call) {
    for (String d : NO_SHELVES) Bounds.refused(Bounds.MIDDLE, call.replace("SHELF", d) + " = -1");
  }

  private static void rack() {
    Bounds.in("Promise 30");
    Bounds.says("SHELF d gets a ROW of n elements, all 0, of a sort (1 .. 3): n.");
    Bounds.run("rack 0 1 60 = 60", repeated(0, 60, "at 0 THIS = 0"), "at 0 60 = STATE; at 0 -1 = STATE",
        "rack 5 3 1 = 1; at 5 0 = 0; at 5 1 = STATE; rack 5 2 0 = 0; at 5 0 = STATE; clear 5 = 2");
    Bounds.run("rack 0 1 3 = 3; put 0 0 9 = 0; put 0 2 9 = 0; rack 0 3 3 = 3; at 0 0 = 0; at 0 2 = 0; at 0 3 = STATE",
        "clear 0 = 3; show 63 = 1; keep 0 = 1; rack 0 2 3 = 3; at 0 0 = 0; at 0 2 = 0");

    Bounds.says("NONE: no such SHELF, sort, n above 60;");
    noShelf("rack SHELF 1 1");
    Bounds.refused(Bounds.MIDDLE, "rack 0 0 5 = -1", "rack 0 4 5 = -1", "rack 0 MAX 5 = -1", "rack 0 MIN 5 = -1",
        "rack 0 1 61 = -1", "rack 5 3 61 = -1", "rack 3 2 MAX = -1");
    Bounds.run("rack 0 1 60 = 60; rack 0 1 61 = -1; at 0 59 = 0; count 12 = 0");

    Bounds.says("SIZE.");
    Bounds.refused(Bounds.MIDDLE, "rack 0 1 -1 = -14", "rack 3 2 -1 = -14", "rack 5 3 -1 = -14",
        "rack 5 1 MIN = -14");
    Bounds.run("rack 0 1 0 = 0; rack 0 1 -1 = -14; clear 0 = 1");
  }

  private static void keep() {
    Bounds.in("Promise 31");
    Bounds.says("SHELF d gets THE HAND, kept with its SORT: that.");
    Bounds.run("keep 0 = 3; kept 0 0 = 3; show 63 = 1; keep 5 = 1; kept 5 0 = 1; kept 5 4 = 3; show 0 = 1",
        "kept 5 4 = 3; tell 30 = 1; keep 0 = 4; kept 0 0 = 4; kept 0 4 = 0; show 1 = 0; keep 1 = 0; kept 0 0 = 4");
    Bounds.run("rack 0 1 60 = 60; keep 0 = 3; clear 0 = 4; begin 1 2 = 2; show 0 = 2; keep 0 = 2; kept 0 3 = 1",
        "kept 0 4 = 0; kept 0 5 = -13");

    Bounds.says("NONE: no such SHELF.");
    noShelf("keep SHELF");
  }

  private static void clear() {
    Bounds.in("Promise 32");
    Bounds.says("SHELF d holds nothing: what it held (0 nothing, 1 .. 4).");
    Bounds.run("clear 0 = 0; clear 5 = 0; rack 0 1 0 = 0; rack 1 2 60 = 60; rack 2 3 1 = 1; keep 5 = 3; clear 0 = 1",
        "clear 1 = 2; clear 2 = 3; clear 5 = 4; clear 0 = 0; clear 5 = 0; put 1 0 1 = -11; kept 5 0 = -11");

    Bounds.says("NONE: no such SHELF.");
    noShelf("clear SHELF");
  }

  private static void put() {
    Bounds.in("Promise 33");
    Bounds.says("Element i of the ROW on SHELF d becomes v, narrowed to its sort: what it was.");
    Bounds.run("rack 0 1 60 = 60; put 0 0 127 = 0; put 0 0 128 = 127; put 0 0 -128 = -128; put 0 0 -129 = -128",
        "put 0 0 MAX = 127; put 0 0 MIN = -1; put 0 0 255 = 0; put 0 0 256 = -1; at 0 0 = 0; put 0 59 5 = 0",
        "at 0 59 = 5; at 0 58 = 0");
    Bounds.run("rack 5 2 1 = 1; put 5 0 65535 = 0; put 5 0 65536 = 65535; put 5 0 -1 = 0; put 5 0 MAX = 65535",
        "put 5 0 MIN = 65535; at 5 0 = 0; put 5 0 32768 = 0; at 5 0 = 32768");
    Bounds.run("rack 5 3 1 = 1; put 5 0 32767 = 0; put 5 0 32768 = 32767; put 5 0 -32768 = -32768",
        "put 5 0 -32769 = -32768; put 5 0 MAX = 32767; put 5 0 MIN = -1; put 5 0 65535 = 0; at 5 0 = -1");

    Bounds.says("NONE: no such SHELF;");
    noShelf("put SHELF 0 1");

    Bounds.says("NOTHING;");
    Bounds.refused(Bounds.MIDDLE, "put 5 0 1 = -11", "put 5 -1 1 = -11");
    Bounds.run("rack 0 1 1 = 1; put 0 0 1 = 0; clear 0 = 1; put 0 0 1 = -11");

    Bounds.says("CAST;");
    Bounds.refused(Bounds.MIDDLE, "put 3 0 1 = -12", "put 4 1 1 = -12", "put 3 60 1 = -12");

    Bounds.says("PLACE.");
    Bounds.refused(Bounds.MIDDLE, "put 0 6 1 = -13", "put 0 -1 1 = -13", "put 1 6 1 = -13", "put 2 4 1 = -13",
        "put 2 MAX 1 = -13", "put 2 MIN 1 = -13");
    Bounds.run("rack 0 1 60 = 60; put 0 59 1 = 0; put 0 60 1 = -13; rack 0 1 0 = 0; put 0 0 1 = -13; rack 0 1 1 = 1",
        "put 0 0 1 = 0; put 0 1 1 = -13");
  }

  private static void at() {
    Bounds.in("Promise 34");
    Bounds.says("Element i of the ROW on SHELF d (it may be a number below 0).");
    Bounds.run("rack 0 1 60 = 60; at 0 0 = 0; at 0 59 = 0; put 0 59 -128 = 0; at 0 59 = -128; rack 5 3 1 = 1",
        "put 5 0 -32768 = 0; at 5 0 = -32768; rack 5 2 1 = 1; put 5 0 -1 = 0; at 5 0 = 65535");
    // -11 to -16 are elements here, and no refusals
    Bounds.run("rack 0 1 1 = 1; put 0 0 -11 = 0; at 0 0 = -11; put 0 0 -13 = -11; at 0 0 = -13; put 0 0 -1 = -13",
        "count 12 = 0");

    Bounds.says("IllegalArgumentException: no such SHELF;");
    Bounds.refused(Bounds.MIDDLE, "at 6 0 = ARGUMENT", "at -1 0 = ARGUMENT", "at MAX 0 = ARGUMENT",
        "at MIN 0 = ARGUMENT", "at 6 -1 = ARGUMENT");

    Bounds.says("IllegalStateException: it holds no ROW, or that has no such place.");
    Bounds.refused(Bounds.MIDDLE, "at 5 0 = STATE", "at 3 0 = STATE", "at 4 1 = STATE", "at 0 6 = STATE",
        "at 0 -1 = STATE", "at 1 6 = STATE", "at 2 4 = STATE", "at 2 MAX = STATE", "at 2 MIN = STATE");
    Bounds.run("rack 0 2 60 = 60; at 0 59 = 0; at 0 60 = STATE; rack 0 2 0 = 0; at 0 0 = STATE; clear 0 = 2",
        "at 0 0 = STATE; count 12 = 0");
  }

  private static void copy() {
    Bounds.in("Promise 35");
    String fiveNumbers = "rack 0 1 5 = 5; put 0 0 1 = 0; put 0 1 2 = 0; put 0 2 3 = 0; put 0 3 4 = 0; put 0 4 5 = 0;";
    Bounds.says("n elements of the ROW on SHELF d from place i on go to the ROW on SHELF e from place j on (as they "
        + "all were before): n.");
    Bounds.run(fiveNumbers, "copy 0 0 0 1 4 = 4; at 0 0 = 1; at 0 1 = 1; at 0 2 = 2; at 0 3 = 3; at 0 4 = 4");
    Bounds.run(fiveNumbers, "copy 0 1 0 0 4 = 4; at 0 0 = 2; at 0 1 = 3; at 0 2 = 4; at 0 3 = 5; at 0 4 = 5",
        "copy 0 0 0 0 5 = 5; at 0 0 = 2; at 0 4 = 5");
    Bounds.run(fiveNumbers, "rack 5 1 2 = 2; copy 0 3 5 0 2 = 2; at 5 0 = 4; at 5 1 = 5; copy 5 1 0 4 1 = 1",
        "copy 5 0 0 0 0 = 0; at 0 0 = 1; copy 0 5 5 2 0 = 0; at 5 1 = 5");
    Bounds.run("rack 0 2 60 = 60; put 0 59 65535 = 0; rack 1 2 60 = 60; copy 0 0 1 0 60 = 60; at 1 59 = 65535",
        "copy 0 59 1 0 1 = 1; at 1 0 = 65535");
    Bounds.run("rack 0 3 0 = 0; rack 1 3 0 = 0; copy 0 0 1 0 0 = 0; copy 0 0 1 0 1 = -13");

    Bounds.says("NONE: no such SHELF;");
    noShelf("copy SHELF 0 0 0 1");
    noShelf("copy 0 0 SHELF 0 1");

    Bounds.says("NOTHING: of either;");
    Bounds.refused(Bounds.MIDDLE, "copy 5 0 0 0 1 = -11", "copy 0 0 5 0 1 = -11", "copy 5 0 5 0 1 = -11",
        "copy 5 0 5 0 0 = -11", "copy 3 0 5 0 1 = -11", "copy 5 0 3 0 1 = -11");

    Bounds.says("CAST: one is no ROW, or they are of two sorts;");
    Bounds.refused(Bounds.MIDDLE, "copy 3 0 0 0 1 = -12", "copy 0 0 3 0 1 = -12", "copy 3 0 4 0 1 = -12",
        "copy 3 0 3 0 0 = -12", "copy 0 0 1 0 1 = -12", "copy 1 0 0 0 1 = -12", "copy 0 0 2 0 1 = -12",
        "copy 2 0 0 0 1 = -12", "copy 1 0 2 0 1 = -12", "copy 2 0 1 0 0 = -12");
    Bounds.run("rack 0 1 1 = 1; rack 1 1 1 = 1; copy 0 0 1 0 1 = 1; rack 1 3 1 = 1; copy 0 0 1 0 1 = -12",
        "rack 0 3 1 = 1; copy 0 0 1 0 1 = 1; count 12 = 1");

    Bounds.says("PLACE: n, i or j is below 0, or a ROW has not so many.");
    Bounds.refused(Bounds.MIDDLE, "copy 0 0 0 0 -1 = -13", "copy 0 -1 0 0 1 = -13", "copy 0 0 0 -1 1 = -13",
        "copy 0 -1 0 0 0 = -13", "copy 0 0 0 -1 0 = -13", "copy 0 0 0 0 7 = -13", "copy 0 1 0 0 6 = -13",
        "copy 0 0 0 1 6 = -13", "copy 0 6 0 0 1 = -13", "copy 0 0 0 6 1 = -13", "copy 0 7 0 0 0 = -13",
        "copy 0 MAX 0 0 1 = -13", "copy 0 0 0 MAX 1 = -13", "copy 0 1 0 1 MAX = -13", "copy 0 MAX 0 MAX MAX = -13",
        "copy 0 MIN 0 0 1 = -13", "copy 0 0 0 MIN 1 = -13", "copy 0 0 0 0 MIN = -13");
    Bounds.run(fiveNumbers, "rack 1 1 3 = 3; copy 0 2 1 0 3 = 3; copy 0 0 1 0 4 = -13; copy 0 3 1 0 3 = -13",
        "copy 0 2 1 1 3 = -13; copy 1 0 0 2 3 = 3; copy 1 0 0 3 3 = -13; at 1 0 = 3; at 0 3 = 4");
  }

  private static void take() {
    Bounds.in("Promise 36");
    Bounds.says("THE HAND becomes the P elements of the ROW on SHELF d from place i on, each a colour, or a BLANK: "
        + "-1 (in bytes and shorts), 65535 (in chars): its SORT then.");
    for (int sort = 1; sort <= 3; sort++) {
      Bounds.run("rack 0 " + sort + " 4 = 4; put 0 1 3 = 0; put 0 3 -1 = 0; take 0 0 = 1; hand 0 = 0; hand 1 = 3",
          "hand 2 = 0; reply 12 = 30; take 0 1 = 3; hand 0 = 3; hand 1 = 0; hand 2 = -1; reply 12 = 2");
      Bounds.run("rack 5 " + sort + " 5 = 5; begin 5 1 = 1; take 5 0 = 4; begin 1 2 = 2; put 5 4 1 = 0; take 5 4 = 2",
          "hand 0 = 1; law 3 0 = 0; take 5 4 = 0; put 5 4 65535 = 1; take 5 4 = 3; hand 0 = -1");
    }

    Bounds.says("NONE: no such SHELF;");
    noShelf("take SHELF 0");

    Bounds.says("NOTHING;");
    Bounds.refused(Bounds.MIDDLE, "take 5 0 = -11", "take 5 -1 = -11");

    Bounds.says("CAST;");
    Bounds.refused(Bounds.MIDDLE, "take 3 0 = -12", "take 4 0 = -12", "take 3 9 = -12");

    Bounds.says("PLACE: it has not all of these;");
    Bounds.refused(Bounds.MIDDLE, "take 0 5 = -13", "take 0 6 = -13", "take 0 -1 = -13", "take 1 5 = -13",
        "take 2 3 = -13", "take 2 MAX = -13", "take 2 MIN = -13");
    Bounds.run("rack 0 1 3 = 3; take 0 0 = 1; take 0 1 = -13; rack 0 1 2 = 2; take 0 0 = -13; rack 0 1 0 = 0",
        "take 0 0 = -13; begin 1 4 = 4; take 0 0 = -13; rack 0 1 60 = 60; take 0 59 = 1; take 0 60 = -13",
        "begin 5 2 = 32; take 0 55 = 1; take 0 56 = -13");

    Bounds.says("COLOUR: one of them is neither.");
    Bounds.refused(Bounds.MIDDLE, "take 0 4 = -16", "take 2 2 = -16");
    Bounds.run("rack 0 1 3 = 3; put 0 2 3 = 0; take 0 0 = 1; put 0 2 4 = 3; take 0 0 = -16; hand 2 = 3",
        "put 0 2 -1 = 4; take 0 0 = 3; put 0 2 -2 = -1; take 0 0 = -16; put 0 2 127 = -2; take 0 0 = -16",
        "put 0 2 -128 = 127; take 0 0 = -16; put 0 2 0 = -128; put 0 0 4 = 0; take 0 0 = -16; hand 2 = -1",
        "count 12 = 0");
    Bounds.run("rack 0 2 3 = 3; put 0 2 4 = 0; take 0 0 = -16; put 0 2 65534 = 4; take 0 0 = -16",
        "put 0 2 65535 = 65534; take 0 0 = 3; put 0 2 255 = 65535; take 0 0 = -16; count 12 = 0");
    Bounds.run("rack 0 3 3 = 3; put 0 1 4 = 0; take 0 0 = -16; put 0 1 -2 = 4; take 0 0 = -16; put 0 1 255 = -2",
        "take 0 0 = -16; put 0 1 65535 = 255; take 0 0 = 3");
  }

  private static void kept() {
    Bounds.in("Promise 37");
    Bounds.says("Of the KEPT GUESS on SHELF d: what 0 its SORT, 1 its WEIGHT, 2 its RANK, 3 how many PLACES it has, "
        + "4 .. 8 its PEG at place what - 4 (-1 if BLANK; PLACE: it has none such).");
    Bounds.run("begin 5 2 = 32; keep 0 = 3; kept 0 0 = 3; kept 0 1 = -5; kept 0 2 = 0; kept 0 3 = 5; kept 0 4 = -1",
        "kept 0 8 = -1; show 1 = 1; keep 5 = 1; kept 5 0 = 1; kept 5 1 = 15; kept 5 2 = 2; kept 5 4 = 0",
        "kept 5 7 = 0; kept 5 8 = 1; begin 1 2 = 2; kept 5 3 = 5; kept 5 8 = 1; keep 0 = 3; kept 0 3 = 1",
        "kept 0 4 = -1; kept 0 5 = -13; kept 0 8 = -13; count 12 = 2");
    Bounds.refused(Bounds.MIDDLE, "kept 3 6 = -13", "kept 3 7 = -13", "kept 3 8 = -13", "kept 4 6 = -13");
    Bounds.run("keep 0 = 3; kept 0 6 = -1; kept 0 7 = -13; kept 0 8 = -13; show 63 = 1; keep 0 = 1; kept 0 6 = 3",
        "kept 0 7 = -13");

    Bounds.says("NONE: no such SHELF, what (0 .. 8);");
    noShelf("kept SHELF 0");
    Bounds.refused(Bounds.MIDDLE, "kept 3 -1 = -1", "kept 3 9 = -1", "kept 3 MAX = -1", "kept 3 MIN = -1",
        "kept 5 9 = -1", "kept 0 -1 = -1");

    Bounds.says("NOTHING;");
    Bounds.refused(Bounds.MIDDLE, "kept 5 0 = -11", "kept 5 3 = -11", "kept 5 8 = -11");

    Bounds.says("CAST.");
    Bounds.refused(Bounds.MIDDLE, "kept 0 0 = -12", "kept 1 1 = -12", "kept 2 2 = -12", "kept 0 8 = -12");
  }

  private static void toss() {
    Bounds.in("Promise 38");
    Bounds.says("The failure of the KEPT GUESS on SHELF d is thrown, and caught: 1 more than its SORT.");
    Bounds.run("peg 0 0 = -1; keep 0 = 3; toss 0 = 4; show 5 = 1; keep 0 = 1; toss 0 = 2; enlist 5 = 1; law 3 0 = 1",
        "keep 5 = 4; toss 5 = 5; enlist 6 = 2; keep 1 = 2; toss 1 = 3; show 7 = 0; keep 2 = 0; toss 2 = 1",
        "toss 5 = 5; clear 5 = 4; count 12 = 0");

    Bounds.says("NONE: no such SHELF;");
    noShelf("toss SHELF");

    Bounds.says("NOTHING;");
    Bounds.refused(Bounds.MIDDLE, "toss 5 = -11");

    Bounds.says("CAST;");
    Bounds.refused(Bounds.MIDDLE, "toss 0 = -12", "toss 1 = -12", "toss 2 = -12");
    Bounds.run("rack 0 1 0 = 0; toss 0 = -12");

    Bounds.says("THROWN: one all of whose PEGS are BLANK has none.");
    Bounds.refused("keep 0 = 3;", "toss 0 = -15");
    Bounds.refused(Bounds.MIDDLE + "peg 0 -1 = 7; keep 5 = 3;", "toss 5 = -15");
    for (int places = 1; places <= 5; places++) {
      Bounds.run("begin " + places + " 1 = 1; keep 0 = 3; toss 0 = -15; peg " + (places - 1) + " 0 = -1",
          "keep 0 = " + (places == 1 ? 4 : 3), "toss 0 = " + (places == 1 ? 5 : 4));
    }
  }

  private static void count() {
    Bounds.in("Promise 39");
    Bounds.says("0 PLACES, 1 COLOURS, 2 CODES, 3 ALLOWED ones, 4 LEFT, 5 TURNS, 6 PARTS of THE HAND, 7 NODES of THE "
        + "TREE, 8 of THE PLAN, 9 LIES, 10 the LAW, 11 how many are in the LIST,");
    Bounds.run(Bounds.MIDDLE, "count 0 = 2; count 1 = 8; count 2 = 64; count 3 = 4; count 4 = 4; count 5 = 2",
        "count 6 = 1; count 7 = 5; count 8 = 4; count 9 = 0; count 10 = 3; count 11 = 4; count 12 = 1");
    Bounds.run("begin 5 1 = 1; count 0 = 5; count 1 = 1; count 2 = 1; begin 4 8 = 4096; count 2 = 4096",
        "count 3 = 4096; count 4 = 4096; count 6 = 1; lies 2 = 0; count 9 = 2", repeated(0, 10, "tell 0 = 4096"),
        "count 5 = 10; count 4 = 4096; law 3 0 = -3; count 10 = 0");
    Bounds.run("law 3 0 = 0; count 3 = 0; count 4 = 0; count 6 = 0; count 10 = 3; count 11 = 0");

    Bounds.says("12 refusals of the host's (-11 to -15, by put, copy, take, kept, toss, rack, also PLACE of peg and "
        + "hand) so far.");
    Bounds.run("rack 0 1 -1 = -14; put 0 0 0 = -11; copy 0 0 0 0 0 = -11; take 0 0 = -11; kept 0 0 = -11",
        "toss 0 = -11; count 12 = 6; keep 0 = 3; put 0 0 0 = -12; copy 0 0 0 0 0 = -12; take 0 0 = -12",
        "kept 0 8 = -13; toss 0 = -15; count 12 = 11; rack 0 1 1 = 1; put 0 1 0 = -13; copy 0 1 0 1 1 = -13",
        "take 0 0 = -13; kept 0 0 = -12; toss 0 = -12; count 12 = 16; peg 3 0 = -13; hand 3 = -13; count 12 = 18");
    // no refusals of the host's: colours, what at() throws, the other numbers below 0, elements that are such numbers
    Bounds.run("peg 0 9 = -16; rack 0 1 3 = 3; put 0 0 -11 = 0; put 0 0 -12 = -11; put 0 0 -13 = -12",
        "put 0 0 0 = -13; put 0 0 9 = 0; take 0 0 = -16; at 0 9 = STATE; at 1 0 = STATE; at 9 0 = ARGUMENT",
        "show 99 = -1; tell 99 = -1; tell 30 = -4; among 9 = -1; begin 5 6 = -5; least 0 = -5; rack 6 1 1 = -1",
        "put 6 0 0 = -1; copy 6 0 0 0 0 = -1; take 6 0 = -1; kept 6 0 = -1; kept 0 9 = -1; toss 6 = -1; keep 6 = -1",
        "clear 6 = -1; plan -1 0 0 = 0; judge = -20; turn 0 0 = -1; count 13 = -1; count 12 = 0");
    Bounds.run(repeated(0, 255, "hand 3 = -13; peg -1 0 = -13"), "count 12 = 510");

    Bounds.says("NONE for another what.");
    Bounds.refused(Bounds.MIDDLE, "count -1 = -1", "count 13 = -1", "count MAX = -1", "count MIN = -1");
    Bounds.run("count 0 = 3; count -1 = -1; count 12 = 0; count 13 = -1");
  }
}
