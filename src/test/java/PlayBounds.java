/** The sentences of promises 1 to 20 that name a boundary case. */
final class PlayBounds {
  private static final String TEN_TURNS = repeated(0, 10, "tell 0 = 64");
  private static final String FULL_LIST = "begin 4 8 = 4096;" + repeated(0, 300, "enlist THIS = NEXT");

  private PlayBounds() { }

  static void all() {
    newObject();
    begin();
    law();
    enlist();
    lies();
    peg();
    show();
    handAndSort();
    answerAndReply();
    tell();
    undo();
    quarrel();
    turn();
    left();
    falses();
    part();
    among();
    like();
  }

  private static String repeated(int from, int to, String call) {
    return CourtRun.repeated(from, to, call);
  }

  private static void newObject() {
    Bounds.in("Promise 1");
    Bounds.says("As told in I to IV: 3 PLACES, 4 COLOURS.");
    Bounds.run("count 0 = 3; count 1 = 4; count 2 = 64; count 3 = 64; count 4 = 64; count 5 = 0; count 6 = 1",
        repeated(7, 13, "count THIS = 0"), repeated(0, 3, "hand THIS = -1"), "hand 3 = -13; sort = 3; left 0 = 0",
        "left 63 = 63; left 64 = -1; undo = -1; quarrel -1 = -1; quarrel 0 = -1; turn 0 0 = -1; node 0 0 = -1",
        "drop = 0; judge = -1; total = -1", repeated(0, 6, "clear THIS = 0"));
  }

  private static void begin() {
    Bounds.in("Promise 2");
    Bounds.says("All is as at first (SHELVES stay as they are), with these PLACES and COLOURS: how many CODES.");
    for (String state : new String[] {Bounds.SET, Bounds.MIDDLE, Bounds.LYING, "", TEN_TURNS, "law 2 1 = 3;"}) {
      Bounds.alike("", state + "begin 3 4 = 64;");
      Bounds.alike("begin 2 8 = 64;", state + "begin 2 8 = 64;");
      Bounds.alike("begin 5 2 = 32;", state + "begin 5 2 = 32;");
      Bounds.alike("begin 1 1 = 1;", state + "begin 1 1 = 1;");
      Bounds.shelvesAlike(state, state + "begin 5 2 = 32;");
    }
    // the same numbers are other codes, with other trees
    String numbers = Bounds.FOUR_DOUBLES.substring(Bounds.FOUR_DOUBLES.indexOf("enlist"));
    String trees = Bounds.FOUR_DOUBLES + "least 0 = 3; least 1 = 4; among 0 = 2;";
    Bounds.alike("begin 3 8 = 512;" + numbers, trees + "begin 3 8 = 512;" + numbers);
    Bounds.alike("begin 2 6 = 36;" + numbers, trees + "begin 2 6 = 36;" + numbers);
    Bounds.run(trees, "begin 3 8 = 512", numbers, "least 0 = 2", trees, "begin 2 6 = 36", numbers, "least 0 = 2",
        "least 1 = 2");
    Bounds.run("hand 3 = -13; count 12 = 1; begin 3 4 = 64; count 12 = 0; law 3 0 = 0; plan -1 0 0 = 0",
        "begin 3 4 = 64; plan -1 0 0 = 0");
    Bounds.run("begin 4 8 = 4096; enlist 4095 = 1; show 4095 = 1; tell 40 = 1; begin 1 1 = 1; falses 0 = 0",
        "begin 4 8 = 4096; falses 0 = 0; falses 4094 = 0; count 11 = 0; law 3 0 = 0; enlist 4095 = 1");
    Bounds.run(FULL_LIST, "begin 4 8 = 4096; count 11 = 0; enlist 300 = 1; enlist 0 = 2");

    Bounds.says("NONE: not 1 .. 5, not 1 .. 8;");
    Bounds.run("begin 1 4 = 4; begin 5 4 = 1024; begin 3 1 = 1; begin 3 8 = 512; begin 1 1 = 1; begin 5 1 = 1",
        "begin 1 8 = 8");
    Bounds.refused(Bounds.MIDDLE, "begin 0 4 = -1", "begin 6 4 = -1", "begin 6 1 = -1", "begin -1 4 = -1",
        "begin 3 0 = -1", "begin 3 9 = -1", "begin 1 9 = -1", "begin 3 -1 = -1", "begin MAX 2 = -1",
        "begin MIN 2 = -1", "begin 2 MAX = -1", "begin 2 MIN = -1");

    Bounds.says("BIG: more than 4096 CODES.");
    Bounds.run("begin 4 8 = 4096; count 2 = 4096; begin 5 5 = 3125; begin 5 6 = -5; count 2 = 3125");
    Bounds.refused(Bounds.MIDDLE, "begin 5 6 = -5", "begin 5 7 = -5", "begin 5 8 = -5");
  }

  private static void law() {
    Bounds.in("Promise 3");
    Bounds.says("The LAW becomes 0 .. 3;");
    Bounds.run("law 3 0 = 0; count 10 = 3; law 0 0 = 64; count 10 = 0; law 1 0 = 24; count 10 = 1; law 2 0 = 1",
        "count 10 = 2; law 4 0 = -1; law -1 0 = -1; count 10 = 2; count 3 = 1");

    Bounds.says("told is the sum of LAW 2 (any number): how many CODES are ALLOWED.");
    Bounds.run("law 2 -1 = 0; law 2 0 = 1; law 2 1 = 3; law 2 8 = 3; law 2 9 = 1; law 2 10 = 0; law 2 MAX = 0",
        "law 2 MIN = 0; count 4 = 0; law 1 MAX = 24; law 0 MIN = 64; law 3 -1 = 0; count 4 = 0; tell 0 = -4",
        "law 0 0 = 64; count 4 = 64");

    Bounds.says("NONE;");
    Bounds.refused(Bounds.SET, "law -1 0 = -1", "law 4 0 = -1", "law MAX 0 = -1", "law MIN 0 = -1");

    Bounds.says("STARTED: there are TURNS.");
    Bounds.refused(Bounds.MIDDLE, "law 0 0 = -3", "law 1 0 = -3", "law 2 0 = -3", "law 3 0 = -3");
    Bounds.run("tell 0 = 64; law 1 0 = -3; undo = 0; law 1 0 = 24; tell 30 = -4; law 0 0 = 64");
  }

  private static void enlist() {
    Bounds.in("Promise 4");
    Bounds.says("A CODE comes to the LIST (if it is not in it yet): how many are in it.");
    Bounds.run("enlist 0 = 1; enlist 0 = 1; enlist 63 = 2; enlist 63 = 2; enlist 0 = 2; count 11 = 2; count 3 = 64",
        "law 3 0 = 2; enlist 0 = 2; count 3 = 2; enlist 5 = 3; count 3 = 3; count 4 = 3; left 1 = 5");

    Bounds.says("NONE: no such CODE;");
    Bounds.refused(Bounds.SET, "enlist -1 = -1", "enlist 64 = -1", "enlist MAX = -1", "enlist MIN = -1");
    Bounds.run("enlist 63 = 1; enlist 64 = -1; begin 4 8 = 4096; enlist 4095 = 1; enlist 4096 = -1; begin 1 1 = 1",
        "enlist 0 = 1; enlist 1 = -1");

    Bounds.says("STARTED: there are TURNS;");
    Bounds.refused(Bounds.MIDDLE, "enlist 0 = -3", "enlist 1 = -3");
    Bounds.run("enlist 5 = 1; tell 0 = 64; enlist 6 = -3; enlist 5 = -3; undo = 0; enlist 6 = 2");

    Bounds.says("FULL: it is not in it, and 300 are.");
    Bounds.run("begin 4 8 = 4096", repeated(0, 299, "enlist THIS = NEXT"), "count 11 = 299; enlist 4095 = 300",
        "enlist 299 = -2; enlist 4095 = 300; enlist 0 = 300; count 11 = 300; law 3 0 = 300; left 299 = 4095",
        "left 300 = -1");
    Bounds.refused(FULL_LIST, "enlist 300 = -2", "enlist 4095 = -2");
    Bounds.refused(FULL_LIST + "law 3 0 = 300;", "enlist 300 = -2");
  }

  private static void lies() {
    Bounds.in("Promise 5");
    Bounds.says("LIES become 0 .. 2: what they were.");
    Bounds.run("lies 0 = 0; lies 1 = 0; lies 2 = 1; lies 2 = 2; lies 0 = 2; count 9 = 0");
    Bounds.run("begin 1 2 = 2; lies 2 = 0; show 0 = 2; tell 10 = 2; tell 10 = 2; tell 10 = 1");

    Bounds.says("NONE;");
    Bounds.refused(Bounds.SET, "lies -1 = -1", "lies 3 = -1", "lies MAX = -1", "lies MIN = -1");

    Bounds.says("STARTED: there are TURNS.");
    Bounds.refused(Bounds.MIDDLE, "lies 0 = -3", "lies 1 = -3", "lies 2 = -3");
    Bounds.run("tell 0 = 64; lies 1 = -3; undo = 0; lies 1 = 0; count 9 = 1");
  }

  private static void peg() {
    Bounds.in("Promise 6");
    Bounds.says("PEG i of THE HAND becomes a colour, or -1 BLANK: what it was (-1 if BLANK).");
    Bounds.run("peg 0 -1 = -1; peg 0 0 = -1; peg 0 3 = 0; peg 0 -1 = 3; hand 0 = -1; peg 2 3 = -1; hand 2 = 3",
        "hand 1 = -1; reply 3 = 10; reply 48 = 1");

    Bounds.says("PLACE: no such place;");
    Bounds.refused(Bounds.MIDDLE, "peg 2 0 = -13", "peg -1 0 = -13", "peg 4 -1 = -13", "peg MAX 0 = -13",
        "peg MIN 0 = -13");
    Bounds.run("peg 2 0 = -1; peg 3 0 = -13; begin 5 4 = 1024; peg 4 0 = -1; peg 5 0 = -13; begin 1 4 = 4",
        "peg 0 0 = -1; peg 1 0 = -13");

    Bounds.says("COLOUR: neither.");
    Bounds.refused(Bounds.MIDDLE, "peg 0 8 = -16", "peg 0 -2 = -16", "peg 1 MAX = -16", "peg 1 MIN = -16");
    Bounds.run("peg 0 3 = -1; peg 0 4 = -16; hand 0 = 3; begin 3 1 = 1; peg 0 0 = -1; peg 0 1 = -16; count 12 = 0");
  }

  private static void show() {
    Bounds.in("Promise 7");
    Bounds.says("THE HAND becomes a CODE: its SORT.");
    Bounds.run("show 0 = 1; hand 0 = 0; hand 2 = 0; show 63 = 1; hand 0 = 3; hand 2 = 3; tell 30 = 1; show 63 = 4",
        "show 0 = 0; hand 1 = 0");
    Bounds.run("begin 1 2 = 2; show 0 = 2; show 1 = 2; begin 1 1 = 1; show 0 = 4");

    Bounds.says("NONE: no such CODE.");
    Bounds.refused(Bounds.MIDDLE, "show -1 = -1", "show 64 = -1", "show MAX = -1", "show MIN = -1");
    Bounds.run("begin 4 8 = 4096; show 4095 = 1; show 4096 = -1; hand 3 = 7");
  }

  private static void handAndSort() {
    Bounds.in("Promise 8");
    Bounds.says("PEG i of THE HAND (-1 if BLANK).");
    Bounds.run("hand 0 = -1; hand 2 = -1; peg 0 0 = -1; hand 0 = 0; peg 2 3 = -1; hand 2 = 3; hand 1 = -1",
        "begin 5 2 = 32; hand 4 = -1; peg 4 1 = -1; hand 4 = 1");

    Bounds.says("PLACE.");
    Bounds.refused(Bounds.MIDDLE, "hand 2 = -13", "hand -1 = -13", "hand 5 = -13", "hand MAX = -13",
        "hand MIN = -13");
    Bounds.run("begin 1 2 = 2; hand 0 = -1; hand 1 = -13; begin 5 2 = 32; hand 4 = -1; hand 5 = -13; count 12 = 1");

    Bounds.in("Promise 9");
    Bounds.says("The SORT of THE HAND.");
    Bounds.run("sort = 3; show 0 = 1; sort = 1; peg 1 -1 = 0; sort = 3; peg 1 0 = -1; sort = 1; tell 30 = 1",
        "sort = 4; peg 2 1 = 0; sort = 0");
    Bounds.run("begin 1 2 = 2; peg 0 1 = -1; sort = 2; law 3 0 = 0; sort = 0; enlist 0 = 1; sort = 0; enlist 1 = 2",
        "sort = 2; tell 10 = 1; sort = 4");
  }

  private static void answerAndReply() {
    Bounds.in("Promise 10");
    Bounds.says("The ANSWER of the CODE guess, as a GUESS, and the CODE code.");
    Bounds.run("answer 0 0 = 30; answer 63 63 = 30; answer 0 63 = 0; answer 6 9 = 12; answer 6 24 = 3",
        "answer 6 6 = 30; sort = 3; hand 0 = -1");

    Bounds.says("NONE: no such CODES.");
    Bounds.refused(Bounds.MIDDLE, "answer 64 0 = -1", "answer 0 64 = -1", "answer -1 0 = -1", "answer 0 -1 = -1",
        "answer 64 64 = -1", "answer MAX MIN = -1", "answer MIN MAX = -1");
    Bounds.run("begin 4 8 = 4096; answer 4095 4095 = 40; answer 4096 4095 = -1; answer 4095 4096 = -1; begin 1 1 = 1",
        "answer 0 0 = 10; answer 0 1 = -1");

    Bounds.in("Promise 11");
    Bounds.says("The ANSWER of THE HAND and a CODE.");
    Bounds.run("reply 0 = 0; reply 63 = 0; peg 2 3 = -1; reply 63 = 10; reply 48 = 1; reply 0 = 0; show 63 = 1",
        "reply 63 = 30; reply 62 = 20");

    Bounds.says("NONE.");
    Bounds.refused(Bounds.MIDDLE, "reply 64 = -1", "reply -1 = -1", "reply MAX = -1", "reply MIN = -1");
    Bounds.run("begin 4 8 = 4096; reply 4095 = 0; reply 4096 = -1");
  }

  private static void tell() {
    Bounds.in("Promise 12");
    Bounds.says("A TURN: THE HAND with this ANSWER: how many CODES are LEFT.");
    Bounds.run("tell 0 = 64; turn 0 1 = -1; turn 0 0 = 0; show 0 = 1; tell 0 = 27; turn 1 1 = 0; turn 1 3 = 0",
        "count 5 = 2; show 63 = 1; tell 30 = 1; turn 2 0 = 30; turn 1 1 = 0; count 4 = 1; left 0 = 63");
    Bounds.run("begin 4 8 = 4096; tell 0 = 4096; show 4095 = 1; tell 40 = 1; left 0 = 4095; tell 30 = -4",
        "falses 0 = 1; falses 4095 = 0; undo = 1; falses 0 = 0; count 4 = 4096");

    Bounds.says("NONE: it can't be told as an ANSWER;");
    Bounds.run("tell 0 = 64; tell 3 = -4; tell 4 = -1; tell 12 = -4; tell 13 = -1; tell 21 = -4; tell 22 = -1",
        "tell 30 = -4; tell 31 = -1");
    Bounds.refused(Bounds.MIDDLE, "tell -1 = -1", "tell 3 = -1", "tell 9 = -1", "tell 12 = -1", "tell 21 = -1",
        "tell 30 = -1", "tell MAX = -1", "tell MIN = -1");

    Bounds.says("FULL: 10 TURNS;");
    Bounds.run(repeated(0, 9, "tell 0 = 64"), "count 5 = 9; tell 0 = 64; count 5 = 10; tell 0 = -2; count 5 = 10",
        "undo = 9; tell 0 = 64; tell 0 = -2");
    Bounds.refused(TEN_TURNS, "tell 0 = -2", "tell 30 = -2");

    Bounds.says("LIE: none would be LEFT");
    Bounds.run("begin 1 2 = 2; show 0 = 2; tell 10 = 1; tell 0 = -4; count 5 = 1; count 4 = 1; tell 10 = 1",
        "falses 1 = 2; falses 0 = 0");
    Bounds.run("begin 1 2 = 2; lies 2 = 0; tell 10 = 2; tell 10 = 2; tell 10 = -4; count 5 = 2; falses 0 = 2");
    Bounds.refused(Bounds.MIDDLE, "tell 20 = -4", "tell 1 = -4", "tell 10 = -4");
    Bounds.refused(Bounds.SET, "tell 20 = -4");
    Bounds.refused("law 3 0 = 0;", "tell 0 = -4");
    Bounds.refused(repeated(0, 9, "tell 0 = 64"), "tell 30 = -4");

    Bounds.says("(the LEAST QUARREL of all TURNS, with this as the last one, is kept for quarrel(), in place of "
        + "another one).");
    Bounds.run("begin 1 2 = 2; show 0 = 2; tell 10 = 1; quarrel -1 = -1; tell 0 = -4; quarrel -1 = 2; quarrel 0 = 0",
        "quarrel 1 = 1; peg 0 -1 = 0; tell 10 = -4; quarrel -1 = 1; quarrel 0 = 1; quarrel 1 = -1");
    Bounds.run(repeated(0, 9, "tell 0 = 64"), "tell 30 = -4; quarrel -1 = 1; quarrel 0 = 9; tell 0 = 64",
        "tell 30 = -2; quarrel 0 = 9; undo = 9");
  }

  private static void undo() {
    Bounds.in("Promise 13");
    Bounds.says("The latest TURN goes: how many are there.");
    Bounds.run("tell 0 = 64; show 0 = 1; tell 30 = 1; undo = 1; count 4 = 64; turn 0 1 = -1; turn 1 0 = -1",
        "falses 1 = 0; undo = 0; count 5 = 0");
    Bounds.run(TEN_TURNS, "undo = 9; undo = 8; undo = 7; undo = 6; undo = 5; undo = 4; undo = 3; undo = 2; undo = 1",
        "undo = 0; undo = -1");
    Bounds.alike(Bounds.SET + "show 63 = 0;", Bounds.SET + "show 63 = 0; tell 0 = 4; undo = 0;");
    Bounds.alike(Bounds.MIDDLE, Bounds.MIDDLE + "tell 0 = 4; tell 0 = 4; undo = 3; undo = 2;");

    Bounds.says("NONE: there is none.");
    Bounds.refused("", "undo = -1");
    Bounds.refused(Bounds.SET, "undo = -1");
    Bounds.run("tell 0 = 64; undo = 0; undo = -1; tell 30 = -4; undo = -1; count 5 = 0");
  }

  private static void quarrel() {
    Bounds.in("Promise 14");
    String lie = "begin 1 2 = 2; show 0 = 2; tell 10 = 1; peg 0 -1 = 0; tell 0 = 1; show 1 = 0; tell 10 = -4;";
    Bounds.says("The i-th TURN, rising, of the QUARREL of the latest tell() since begin() (or the beginning) that "
        + "was answered LIE;");
    Bounds.run(lie, "quarrel 0 = 0; quarrel 1 = 2; tell 0 = 1; quarrel 1 = 2; tell 20 = -1; quarrel 1 = 2; undo = 2",
        "undo = 1; undo = 0; quarrel 1 = 2; tell 10 = 1; quarrel 1 = 2; peg 0 -1 = 1; tell 10 = -4; quarrel 0 = 1",
        "quarrel 1 = -1; begin 0 0 = -1; quarrel 0 = 1");
    Bounds.run(lie, "begin 1 2 = 2; quarrel 0 = -1; quarrel 1 = -1; quarrel -1 = -1");

    Bounds.says("i -1: how many it has.");
    Bounds.run("quarrel -1 = -1; tell 0 = 64; quarrel -1 = -1", lie, "quarrel -1 = 2; peg 0 -1 = 1; tell 10 = -4",
        "quarrel -1 = 1");

    Bounds.says("NONE: there is none such.");
    Bounds.refused(lie, "quarrel 2 = -1", "quarrel -2 = -1", "quarrel 10 = -1", "quarrel MAX = -1",
        "quarrel MIN = -1");
    Bounds.refused("", "quarrel -1 = -1", "quarrel 0 = -1", "quarrel 1 = -1");

    Bounds.says("(It may be 0 TURNS.)");
    Bounds.run("law 3 0 = 0; tell 0 = -4; quarrel -1 = 0; quarrel 0 = -1; quarrel -2 = -1; law 0 0 = 64",
        "quarrel -1 = 0; begin 3 4 = 64; quarrel -1 = -1");
  }

  private static void turn() {
    Bounds.in("Promise 15");
    Bounds.says("Of a TURN: what 0 its ANSWER, 1 .. P its PEG at place what - 1 (-1 if BLANK), 6 how many CODES "
        + "that are LEFT now it is FALSE for.");
    Bounds.run("begin 5 2 = 32; show 30 = 1; peg 0 -1 = 1; tell 40 = 2; turn 0 0 = 40; turn 0 1 = -1; turn 0 2 = 1",
        "turn 0 4 = 1; turn 0 5 = 0; turn 0 6 = 0; peg 4 1 = 0; turn 0 5 = 0");
    Bounds.run("begin 1 3 = 3; lies 1 = 0; show 0 = 1; tell 10 = 3; turn 0 6 = 2; turn 0 1 = 0; turn 0 2 = -1",
        "tell 0 = 3; turn 0 6 = 2; turn 1 6 = 1; tell 0 = 2; turn 0 6 = 2; turn 2 6 = 0; undo = 2; turn 1 6 = 1");
    Bounds.run(TEN_TURNS, "turn 9 0 = 0; turn 9 3 = -1; turn 9 6 = 0; turn 10 0 = -1");

    Bounds.says("NONE: no such TURN, or what.");
    Bounds.refused(Bounds.MIDDLE, "turn -1 0 = -1", "turn 2 0 = -1", "turn 2 6 = -1", "turn MAX 0 = -1",
        "turn MIN 0 = -1", "turn 0 -1 = -1", "turn 0 3 = -1", "turn 0 4 = -1", "turn 0 5 = -1", "turn 0 7 = -1",
        "turn 1 MAX = -1", "turn 1 MIN = -1");
    Bounds.refused("", "turn 0 0 = -1", "turn 0 6 = -1");
    Bounds.run("begin 5 2 = 32; show 0 = 1; tell 50 = 1; turn 0 5 = 0; turn 0 6 = 0; turn 0 7 = -1; undo = 0",
        "turn 0 0 = -1");
  }

  private static void left() {
    Bounds.in("Promise 16");
    Bounds.says("The CODE that is LEFT, number i.");
    Bounds.run("left 0 = 0; left 63 = 63; law 2 1 = 3; left 0 = 1; left 1 = 4; left 2 = 16; show 16 = 1; tell 30 = 1",
        "left 0 = 16; undo = 0; left 0 = 1");
    Bounds.run("begin 4 8 = 4096; left 4095 = 4095; left 4096 = -1");

    Bounds.says("NONE: there is none.");
    Bounds.refused(Bounds.MIDDLE, "left 4 = -1", "left -1 = -1", "left MAX = -1", "left MIN = -1");
    Bounds.run("left 64 = -1; law 3 0 = 0; left 0 = -1; enlist 7 = 1; left 0 = 7; left 1 = -1");
  }

  private static void falses() {
    Bounds.in("Promise 17");
    Bounds.says("FALSE of a CODE.");
    Bounds.run("falses 0 = 0; falses 63 = 0; law 2 9 = 1; show 63 = 4; tell 30 = 1; falses 63 = 0; falses 0 = 1",
        "falses 62 = 1", repeated(1, 10, "tell 30 = 1"), "falses 0 = 10; falses 63 = 0; tell 30 = -2; falses 0 = 10",
        "undo = 9; falses 0 = 9");
    Bounds.run("show 0 = 1; tell 30 = 1; show 1 = 0; tell 30 = -4; falses 0 = 0; falses 1 = 1");

    Bounds.says("NONE: no such CODE.");
    Bounds.refused(Bounds.MIDDLE, "falses 64 = -1", "falses -1 = -1", "falses MAX = -1", "falses MIN = -1");
    Bounds.run("begin 4 8 = 4096; falses 4095 = 0; falses 4096 = -1; begin 1 1 = 1; falses 0 = 0; falses 1 = -1");
  }

  private static void part() {
    Bounds.in("Promise 18");
    Bounds.says("Of PART i of THE HAND: what 0 the ANSWER, 1 how many.");
    Bounds.run("part 0 0 = 0; part 0 1 = 64; begin 2 2 = 4; show 1 = 1; count 6 = 3; part 0 0 = 2; part 0 1 = 1",
        "part 1 0 = 10; part 1 1 = 2; part 2 0 = 20; part 2 1 = 1; part 3 0 = -1; tell 10 = 2; part 0 0 = 10",
        "part 0 1 = 2; part 1 0 = -1");

    Bounds.says("NONE: no such PART, what.");
    Bounds.refused(Bounds.MIDDLE, "part 1 0 = -1", "part 1 1 = -1", "part -1 0 = -1", "part MAX 1 = -1",
        "part MIN 0 = -1", "part 0 2 = -1", "part 0 -1 = -1", "part 0 MAX = -1", "part 0 MIN = -1");
    Bounds.run("law 3 0 = 0; part 0 0 = -1; part 0 1 = -1; show 0 = 0; part 0 0 = -1");
  }

  private static void among() {
    Bounds.in("Promise 19");
    Bounds.says("Of all CODES as GUESSES: what 0 the least number that the greatest of its PARTS has, 1 the "
        + "greatest number of PARTS; 2, 3 the least CODE that has this.");
    Bounds.run("begin 2 2 = 4; among 0 = 2; among 1 = 3; among 2 = 0; among 3 = 0; law 2 1 = 2; among 0 = 1",
        "among 1 = 2; among 2 = 1; among 3 = 1; show 2 = 2; tell 20 = 1; among 0 = 1; among 1 = 1; among 2 = 0",
        "among 3 = 0");
    Bounds.run("begin 1 1 = 1; among 0 = 1; among 1 = 1; among 2 = 0; among 3 = 0; begin 1 8 = 8; among 0 = 7",
        "among 1 = 2; among 2 = 0; among 3 = 0");
    Bounds.run("begin 3 3 = 27; among 0 = 6; among 1 = 8; among 2 = 1; among 3 = 1");

    Bounds.says("0 for 0 and 1, NONE for 2 and 3, if none is LEFT.");
    Bounds.refused("law 3 0 = 0;", "among 2 = -1", "among 3 = -1");
    Bounds.run("law 2 -1 = 0; among 0 = 0; among 1 = 0; among 2 = -1; among 3 = -1; begin 4 8 = 4096; law 3 0 = 0",
        "among 0 = 0; among 1 = 0; among 2 = -1");

    Bounds.says("BIG: how many CODES there are times how many are LEFT is above 200000.");
    // 3125 times 64 is 200000
    Bounds.run("begin 5 5 = 3125", repeated(0, 64, "enlist THIS = NEXT"), "law 3 0 = 64; among 0 = 11; among 1 = 12",
        "among 2 = 133; among 3 = 152; enlist 64 = 65; among 0 = -5; among 1 = -5; among 2 = -5; among 3 = -5");
    Bounds.run("begin 4 8 = 4096; among 0 = -5; among 3 = -5", repeated(0, 48, "enlist THIS = NEXT"), "law 3 0 = 48",
        "among 0 = 16; among 1 = 7; enlist 48 = 49; among 0 = -5; among 1 = -5");
    Bounds.refused(FULL_LIST + "law 3 0 = 300;", "among 0 = -5", "among 3 = -5");

    Bounds.says("NONE: no such what (this first).");
    Bounds.refused(Bounds.MIDDLE, "among 4 = -1", "among -1 = -1", "among MAX = -1", "among MIN = -1");
    Bounds.run("begin 4 8 = 4096; among 4 = -1; among -1 = -1; law 3 0 = 0; among 4 = -1; among -1 = -1");
  }

  private static void like() {
    Bounds.in("Promise 20");
    Bounds.says("Whether a TURNING that KEEPS makes CODE b of CODE a (1, 0).");
    Bounds.run("begin 2 3 = 9; like 0 8 = 1; like 0 1 = 0; like 8 8 = 1; show 1 = 1; tell 20 = 1; like 1 1 = 1",
        "like 0 4 = 1; like 0 8 = 0; like 3 3 = 1; like 2 7 = 1; like 2 6 = 0; like 8 8 = 1");
    Bounds.run("begin 2 3 = 9; show 1 = 1; tell 10 = 4; like 0 4 = 1; like 0 8 = 0; like 2 7 = 1; like 0 2 = 0",
        "like 1 1 = 1; like 1 3 = 0");

    Bounds.says("NONE: no such CODES;");
    Bounds.refused("begin 2 3 = 9; tell 0 = 9;", "like 9 0 = -1", "like 0 9 = -1", "like -1 0 = -1",
        "like 0 -1 = -1", "like MAX 0 = -1", "like 0 MIN = -1");
    Bounds.run("begin 4 5 = 625; like 624 624 = 1; like 625 624 = -1; like 624 625 = -1; begin 5 5 = 3125",
        "like 3125 0 = -1; like 0 3125 = -1");

    Bounds.says("BIG: P is above 4, or C above 5.");
    Bounds.run("begin 4 5 = 625; like 0 624 = 1; begin 4 6 = 1296; like 0 0 = -5; begin 5 5 = 3125; like 0 0 = -5",
        "begin 5 1 = 1; like 0 0 = -5; begin 1 6 = 6; like 0 5 = -5; begin 1 5 = 5; like 0 4 = 1; begin 4 1 = 1",
        "like 0 0 = 1; begin 4 8 = 4096; like 0 0 = -5");
    Bounds.refused(Bounds.MIDDLE, "like 0 0 = -5", "like 0 63 = -5");
  }
}
