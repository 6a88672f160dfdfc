/** The sentences of "Terms", I to V, and of "What it is", that name a boundary case. */
final class TermsBounds {
  private TermsBounds() { }

  static void all() {
    use();
    codes();
    guesses();
    answers();
    told();
    laws();
    turns();
    quarrels();
    sorts();
    partsAndTurnings();
    trees();
    shortTrees();
    plans();
    shelves();
    host();
    refusals();
  }

  private static String repeated(int from, int to, String call) {
    return CourtRun.repeated(from, to, call);
  }

  private static int power(int colours, int places) {
    int codes = 1;
    for (int i = 0; i < places; i++) codes *= colours;
    return codes;
  }

  private static void use() {
    Bounds.in("What it is");
    Bounds.says("An object is used for at most 512 calls after it has been made");
    Bounds.run(repeated(0, 511, "hand 3 = -13"), "count 12 = 511");
  }

  // ---- I

  private static void codes() {
    Bounds.in("Terms");
    Bounds.says("PLACES P (1 .. 5) and COLOURS C (1 .. 8), 3 and 4 at first;");
    Bounds.run("count 0 = 3; count 1 = 4");
    Bounds.run("begin 1 8 = 8; count 0 = 1; count 1 = 8; begin 5 1 = 1; count 0 = 5; count 1 = 1; begin 0 8 = -1",
        "begin 6 1 = -1; begin 5 0 = -1; begin 1 9 = -1; count 0 = 5; count 1 = 1; count 2 = 1");

    Bounds.says("the CODES are all rows of P colours (each 0 .. C - 1), at most 4096 of them (C to the P-th).");
    for (int places = 1; places <= 5; places++) {
      for (int colours = 1; colours <= 8; colours++) allCodes(places, colours, power(colours, places));
    }

    Bounds.says("A CODE's number has its colours as digits by C, that of place 0 counting most.");
    Bounds.run("begin 4 8 = 4096; show 0 = 1; hand 0 = 0; hand 1 = 0; hand 2 = 0; hand 3 = 0; show 1 = 1; hand 0 = 0",
        "hand 3 = 1; show 7 = 1; hand 2 = 0; hand 3 = 7; show 8 = 1; hand 2 = 1; hand 3 = 0; show 64 = 1; hand 1 = 1",
        "hand 2 = 0; show 511 = 1; hand 0 = 0; hand 1 = 7; hand 2 = 7; hand 3 = 7; show 512 = 1; hand 0 = 1",
        "hand 1 = 0; hand 3 = 0; show 4094 = 1; hand 0 = 7; hand 2 = 7; hand 3 = 6; show 4095 = 1; hand 0 = 7",
        "hand 1 = 7; hand 2 = 7; hand 3 = 7");
    Bounds.run("begin 5 5 = 3125; show 624 = 1; hand 0 = 0; hand 1 = 4; hand 4 = 4; show 625 = 1; hand 0 = 1",
        "hand 1 = 0; show 3120 = 1; hand 0 = 4; hand 3 = 4; hand 4 = 0");
    Bounds.run("begin 1 1 = 1; show 0 = 4; hand 0 = 0; begin 5 1 = 1; show 0 = 4; hand 0 = 0; hand 4 = 0",
        "begin 1 8 = 8; show 7 = 1; hand 0 = 7");
  }

  private static void allCodes(int places, int colours, int codes) {
    if (codes > 4096) {
      Bounds.run("begin " + places + " " + colours + " = -5; count 0 = 3; count 1 = 4; count 2 = 64");
      return;
    }
    int last = codes - 1, full = 10 * places;
    Bounds.run("begin " + places + " " + colours + " = " + codes + "; count 2 = " + codes,
        "left " + last + " = " + last,
        "left " + codes + " = -1; answer 0 0 = " + full + "; answer " + last + " " + last + " = " + full,
        "answer " + codes + " 0 = -1; answer 0 " + codes + " = -1; answer -1 0 = -1",
        "answer 0 " + last + " = " + (colours == 1 ? full : 0));
  }

  private static void guesses() {
    Bounds.says("A GUESS is a row of P PEGS, each a colour, or BLANK (-1).");
    Bounds.run("peg 2 3 = -1; peg 2 -1 = 3; peg 2 0 = -1; peg 2 4 = -16; peg 2 -2 = -16; peg 3 0 = -13; hand 2 = 0",
        "hand 3 = -13");
    Bounds.run("begin 1 1 = 1; peg 0 0 = -1; peg 0 1 = -16; peg 0 -1 = 0; peg 1 0 = -13; begin 5 2 = 32",
        "peg 4 1 = -1; peg 4 2 = -16; peg 5 0 = -13; hand 4 = 1");
    Bounds.run("begin 1 8 = 8; peg 0 7 = -1; peg 0 8 = -16; hand 0 = 7; reply 7 = 10");
  }

  private static void answers() {
    Bounds.says("The ANSWER of a GUESS and a CODE: BLACKS are the places where the PEG is the CODE's colour.");
    Bounds.run("begin 5 5 = 3125; reply 0 = 0; reply 3124 = 0; peg 4 4 = -1; reply 3124 = 10; reply 4 = 10",
        "reply 20 = 1; reply 0 = 0; peg 0 0 = -1; reply 4 = 20; reply 0 = 10; reply 2500 = 2; answer 3124 3124 = 50",
        "answer 0 3124 = 0");
    Bounds.run("begin 1 1 = 1; reply 0 = 0; peg 0 0 = -1; reply 0 = 10");

    Bounds.says("ALIKE is the sum, over all colours, of how often the colour is among the PEGS, or in the CODE, "
        + "whichever is less (BLANKS are no colour).");
    Bounds.run("begin 4 8 = 4096; reply 0 = 0; reply 4095 = 0; answer 1 512 = 22; answer 9 146 = 10",
        "answer 146 9 = 10; answer 0 3584 = 30; answer 3584 0 = 30; answer 7 3584 = 22; answer 4095 511 = 30",
        "answer 0 4095 = 0");
    Bounds.run("begin 4 8 = 4096; peg 0 7 = -1; reply 4095 = 10; reply 511 = 1; reply 7 = 1; reply 0 = 0",
        "peg 1 7 = -1; reply 4095 = 20; reply 7 = 1; reply 63 = 2; reply 511 = 11; reply 0 = 0");
    Bounds.run("begin 5 5 = 3125; answer 0 1 = 40; answer 1 625 = 32; answer 3124 3120 = 40; answer 3124 624 = 40");

    Bounds.says("WHITES are ALIKE less BLACKS.");
    Bounds.run("begin 4 8 = 4096; answer 83 83 = 40; answer 83 538 = 4; answer 538 83 = 4; answer 83 91 = 30",
        "answer 83 90 = 22");
    Bounds.run("begin 5 5 = 3125; answer 194 970 = 5; answer 194 194 = 50; answer 194 2930 = 14");
    Bounds.run("begin 1 8 = 8; answer 0 7 = 0; answer 7 7 = 10; begin 2 2 = 4; answer 1 2 = 2; answer 1 0 = 10");

    Bounds.says("The ANSWER is 10 times BLACKS and WHITES.");
    Bounds.run("begin 4 8 = 4096; answer 10 17 = 22; answer 10 19 = 21; answer 10 11 = 30; answer 10 4095 = 0",
        "answer 10 10 = 40");

    Bounds.says("FULL is 10 P.");
    for (int places = 1; places <= 5; places++) {
      String full = String.valueOf(10 * places);
      Bounds.run("begin " + places + " 2 = " + power(2, places) + "; answer 1 1 = " + full,
          "show 1 = " + (places == 1 ? 2 : 1),
          "tell " + full + " = 1; left 0 = 1; tree 0 0 = 1; tell " + (10 * places + 1) + " = -1");
    }
  }

  private static boolean mayBeTold(int answer, int places) {
    for (int b = 0; b <= places; b++) {
      for (int w = 0; w <= 9; w++) if (b + w <= places && 10 * b + w == answer) return true;
    }
    return false;
  }

  /** To a blank hand all codes have the answer 0, so another one that may be told is a lie. */
  private static void told() {
    Bounds.says("What may be told as an ANSWER: 10 b + w, b and w 0 or more, w at most 9, b + w at most P.");
    for (int places = 1; places <= 5; places++) {
      int codes = power(3, places);
      for (int answer = -12; answer <= 72; answer++) {
        boolean may = mayBeTold(answer, places);
        int due = !may ? -1 : answer == 0 ? codes : -4;
        Bounds.run("begin " + places + " 3 = " + codes, "tell " + answer + " = " + due, "plan -1 0 0 = 0",
            "plan 0 " + answer + " 0 = " + (may ? 1 : -1));
      }
    }
    Bounds.run("tell MAX = -1; tell MIN = -1; tell 100 = -1; tell -10 = -1; plan -1 0 0 = 0; plan 0 MAX 0 = -1",
        "plan 0 MIN 0 = -1");
  }

  private static void laws() {
    Bounds.says("The LAW allows: 0 (at first) all CODES;");
    Bounds.run("count 10 = 0; count 3 = 64; left 0 = 0; left 63 = 63; left 64 = -1; law 2 0 = 1; law 0 0 = 64",
        "left 63 = 63");

    Bounds.says("1 those without a colour twice;");
    Bounds.run("begin 5 5 = 3125; law 1 0 = 120; left 0 = 194; left 119 = 2930; left 120 = -1; begin 5 4 = 1024",
        "law 1 0 = 0; left 0 = -1");
    Bounds.run("begin 1 8 = 8; law 1 0 = 8; begin 2 1 = 1; law 1 0 = 0; begin 1 1 = 1; law 1 0 = 1; begin 4 8 = 4096",
        "law 1 0 = 1680");

    Bounds.says("2 those whose colours have the told sum;");
    Bounds.run("begin 4 8 = 4096; law 2 -1 = 0; law 2 0 = 1; left 0 = 0; law 2 1 = 4; left 0 = 1; left 3 = 512",
        "law 2 27 = 4; left 3 = 4094; law 2 28 = 1; left 0 = 4095; law 2 29 = 0; law 2 MAX = 0; law 2 MIN = 0");
    Bounds.run("begin 1 1 = 1; law 2 0 = 1; law 2 1 = 0; law 2 -1 = 0");

    Bounds.says("3 those of the LIST, which is empty at first.");
    Bounds.run("count 11 = 0; law 3 0 = 0; left 0 = -1; enlist 63 = 1; count 3 = 1; left 0 = 63; left 1 = -1",
        "enlist 0 = 2; left 0 = 0");

    Bounds.says("These are ALLOWED.");
    Bounds.run("law 3 0 = 0; count 3 = 0; count 4 = 0; law 1 0 = 24; count 3 = 24; show 6 = 1; tell 30 = 1",
        "count 3 = 24; count 4 = 1");
  }

  // ---- II

  private static void turns() {
    Bounds.says("THE HAND is a GUESS, all BLANK at first.");
    Bounds.run("hand 0 = -1; hand 1 = -1; hand 2 = -1; hand 3 = -13; sort = 3; show 63 = 1; begin 5 4 = 1024",
        repeated(0, 5, "hand THIS = -1"), "hand 5 = -13; sort = 3; reply 0 = 0");

    Bounds.says("TURNS, at most 10, numbered from 0 on, are a GUESS with what was told as its ANSWER.");
    Bounds.run("begin 1 8 = 8; turn 0 0 = -1; peg 0 0 = -1; tell 0 = 7; peg 0 1 = 0; tell 0 = 6; peg 0 2 = 1",
        "tell 0 = 5; peg 0 3 = 2; tell 0 = 4; peg 0 4 = 3; tell 0 = 3; peg 0 5 = 4; tell 0 = 2; peg 0 6 = 5",
        "tell 0 = 1; peg 0 7 = 6; tell 10 = 1; peg 0 -1 = 7; tell 0 = 1; count 5 = 9; turn 8 0 = 0; turn 9 0 = -1",
        "tell 0 = 1; count 5 = 10; tell 0 = -2", repeated(0, 8, "turn THIS 1 = THIS"), "turn 7 0 = 10; turn 8 1 = -1",
        "turn 9 1 = -1; turn 9 0 = 0; turn 10 0 = -1; count 5 = 10; undo = 9; tell 0 = 1");

    Bounds.says("FALSE of a CODE: how many TURNS have another ANSWER than their GUESS and it.");
    Bounds.run("begin 1 2 = 2; falses 0 = 0; falses 1 = 0; show 0 = 2",
        repeated(0, 10, "tell 10 = 1; falses 0 = 0; falses 1 = NEXT"));

    Bounds.says("LIES are 0 (at first), 1 or 2.");
    Bounds.run("count 9 = 0; lies 2 = 0; count 9 = 2; lies 3 = -1; count 9 = 2; lies 1 = 2; lies -1 = -1; lies 0 = 1",
        "count 9 = 0");

    Bounds.says("LEFT are the CODES that are ALLOWED and have at most LIES FALSE, numbered from 0 on by their "
        + "numbers.");
    Bounds.run("begin 1 3 = 3; show 1 = 1; tell 10 = 1; left 0 = 1; left 1 = -1; left -1 = -1");
    Bounds.run("begin 1 3 = 3; lies 1 = 0; show 1 = 1; tell 10 = 3; left 0 = 0; left 2 = 2; left 3 = -1; tell 10 = 1",
        "left 0 = 1; left 1 = -1");
    Bounds.run("begin 1 3 = 3; lies 2 = 0; show 1 = 1; tell 10 = 3; tell 10 = 3; left 2 = 2; tell 10 = 1; left 0 = 1",
        "left 1 = -1");
    Bounds.run("enlist 40 = 1; enlist 2 = 2; enlist 63 = 3; law 3 0 = 3; left 0 = 2; left 1 = 40; left 2 = 63",
        "left 3 = -1");
  }

  private static void quarrels() {
    Bounds.says("A set of TURNS is a QUARREL if each ALLOWED CODE has more than LIES FALSE by these TURNS alone");
    Bounds.run("begin 1 2 = 2; tell 10 = -4; quarrel -1 = 1; quarrel 0 = 0");
    Bounds.run("begin 1 2 = 2; lies 1 = 0; tell 10 = 2; tell 10 = -4; quarrel -1 = 2; quarrel 0 = 0; quarrel 1 = 1");
    Bounds.run("begin 1 2 = 2; lies 2 = 0; tell 10 = 2; tell 10 = 2; tell 10 = -4; quarrel -1 = 3; quarrel 2 = 2");
    // the answer fits code 1, which is not allowed
    Bounds.run("begin 1 2 = 2; enlist 0 = 1; law 3 0 = 1; show 1 = 0; tell 10 = -4; quarrel -1 = 1; quarrel 0 = 0");

    Bounds.says("(if none is ALLOWED, the empty one, too).");
    Bounds.run("law 3 0 = 0; tell 0 = -4; quarrel -1 = 0; quarrel 0 = -1");
    Bounds.run("lies 2 = 0; law 2 -1 = 0; show 0 = 0; tell 30 = -4; quarrel -1 = 0; quarrel 0 = -1; quarrel 1 = -1");

    Bounds.says("The LEAST QUARREL of some TURNS is that with the fewest TURNS;");
    Bounds.run("begin 1 3 = 3; show 0 = 1; tell 0 = 2; show 1 = 2; tell 0 = 1; show 2 = 4; tell 0 = -4",
        "quarrel -1 = 3");
    Bounds.run("begin 1 3 = 3; show 0 = 1; tell 0 = 2; show 1 = 2; tell 0 = 1; show 0 = 0; tell 10 = -4",
        "quarrel -1 = 2; quarrel 0 = 0; quarrel 1 = 2; peg 0 -1 = 0; tell 10 = -4; quarrel -1 = 1; quarrel 0 = 2");
    // each code has a lie too many only with both of its two turns: all ten are needed
    Bounds.run("begin 1 5 = 5; lies 1 = 0; show 0 = 1; tell 0 = 5; tell 0 = 4; show 1 = 1; tell 0 = 4; tell 0 = 3",
        "show 2 = 1; tell 0 = 3; tell 0 = 2; show 3 = 2; tell 0 = 2; tell 0 = 1; show 4 = 4; tell 0 = 1; tell 0 = -4",
        "quarrel -1 = 10", repeated(0, 10, "quarrel THIS = THIS"), "quarrel 10 = -1; count 5 = 9");

    Bounds.says("of several the one for which the sum of 2^t, t going over its TURNS, is least.");
    Bounds.run("begin 1 2 = 2; show 0 = 2; tell 10 = 1; tell 10 = 1; show 1 = 0; tell 10 = -4; quarrel -1 = 2",
        "quarrel 0 = 0; quarrel 1 = 2");
    // {0, 3, 5} and {1, 2, 5} are both quarrels: 1 + 8 is more than 2 + 4
    Bounds.run("begin 2 8 = 64; enlist 1 = 1; enlist 2 = 2; enlist 25 = 3; enlist 26 = 4; enlist 36 = 5; law 3 0 = 5",
        "peg 0 0 = -1; tell 0 = 3; peg 0 1 = 0; tell 0 = 2; peg 0 2 = 1; tell 0 = 1; peg 0 3 = 2; tell 0 = 1",
        "peg 0 -1 = 3; tell 0 = 1; peg 0 4 = -1; tell 0 = -4; quarrel -1 = 3; quarrel 0 = 1; quarrel 1 = 2",
        "quarrel 2 = 5");
  }

  private static void sorts() {
    String one = "enlist 5 = 1; law 3 0 = 1;";
    Bounds.says("The SORT of THE HAND, the first of these: 3 BLANK: a PEG is;");
    Bounds.run(one, "sort = 3; show 5 = 4; peg 0 -1 = 0; sort = 3; peg 0 0 = -1; sort = 4; peg 2 -1 = 1; sort = 3",
        "peg 1 -1 = 1; peg 0 -1 = 0; sort = 3; law 2 -1 = 0; sort = 3");
    Bounds.run("begin 1 1 = 1; sort = 3; begin 5 1 = 1; show 0 = 4; peg 4 -1 = 0; sort = 3; peg 4 0 = -1; sort = 4");

    Bounds.says("4 LAST: it is the one CODE that is LEFT, and no other one is;");
    Bounds.run(one, "show 5 = 4; show 6 = 0; enlist 6 = 2; show 6 = 2; show 5 = 2; tell 30 = 1; sort = 4; show 6 = 0",
        "undo = 0; sort = 2");
    Bounds.run("law 3 0 = 0; show 5 = 0; begin 1 1 = 1; show 0 = 4");

    Bounds.says("2 SURE: it is LEFT, and no two CODES that are LEFT have one ANSWER to it;");
    Bounds.run("begin 2 3 = 9; enlist 0 = 1; enlist 1 = 2; law 3 0 = 2; show 0 = 2; show 1 = 2; show 4 = 0",
        "enlist 4 = 3; show 0 = 2; show 1 = 1; show 4 = 2; show 2 = 0");

    Bounds.says("1 FITTING: it is LEFT;");
    Bounds.run("show 0 = 1; show 63 = 1; tell 30 = 1; show 0 = 0; lies 0 = -3");
    Bounds.run("begin 1 3 = 3; lies 1 = 0; show 0 = 1; tell 10 = 3; show 2 = 1; show 0 = 1; tell 10 = 1; sort = 4",
        "show 2 = 0");

    Bounds.says("0 PLAIN.");
    Bounds.run("law 1 0 = 24; show 6 = 1; show 5 = 0; sort = 0; law 2 -1 = 0; show 6 = 0");
    // to 11 the two that are left have two answers, but it is not left
    Bounds.run("begin 2 3 = 9; enlist 0 = 1; enlist 1 = 2; law 3 0 = 2; show 4 = 0; count 6 = 2");
  }

  private static void partsAndTurnings() {
    Bounds.says("PARTS of THE HAND: the ANSWERS to it that CODES that are LEFT have, rising, each with how many "
        + "have it.");
    Bounds.run("count 6 = 1; part 0 0 = 0; part 0 1 = 64; part 1 0 = -1; law 3 0 = 0; count 6 = 0; part 0 0 = -1",
        "part 0 1 = -1");
    Bounds.run("begin 5 2 = 32; show 0 = 1; count 6 = 6; part 0 0 = 0; part 0 1 = 1; part 1 0 = 10; part 1 1 = 5",
        "part 2 0 = 20; part 2 1 = 10; part 3 0 = 30; part 3 1 = 10; part 4 0 = 40; part 4 1 = 5; part 5 0 = 50",
        "part 5 1 = 1; part 6 0 = -1; part 6 1 = -1");

    Bounds.says("A TURNING moves each place to a place and each colour to a colour (two never to one); it makes a "
        + "CODE of each CODE: at the place to which place i goes stands what the colour at i becomes.");
    Bounds.run("begin 2 3 = 9; like 0 4 = 1; like 0 8 = 1; like 0 1 = 0; like 1 0 = 0; like 1 3 = 1; like 1 7 = 1",
        "like 5 5 = 1");
    Bounds.run("begin 4 5 = 625; like 38 586 = 1; like 38 0 = 0; like 38 1 = 0; like 0 624 = 1; like 1 624 = 0",
        "like 1 5 = 1; like 6 30 = 1; like 6 31 = 0");
    Bounds.run("begin 1 1 = 1; like 0 0 = 1; begin 4 1 = 1; like 0 0 = 1; begin 1 5 = 5; like 0 4 = 1");
    // 001 alone is left: the places 0 and 1 may change with one another, and no colour may
    Bounds.run("begin 3 3 = 27; enlist 1 = 1; law 3 0 = 1; like 3 9 = 1; like 9 3 = 1; like 3 1 = 0; like 1 1 = 1",
        "like 6 18 = 1; like 5 7 = 0; like 5 11 = 1");

    Bounds.says("It KEEPS if it makes of the CODES that are LEFT just those.");
    Bounds.run("begin 2 3 = 9; like 0 4 = 1; law 3 0 = 0; like 0 4 = 1; like 0 1 = 0; enlist 0 = 1; like 0 4 = 0",
        "like 4 0 = 0; like 4 8 = 1; enlist 4 = 2; like 0 4 = 1; like 0 8 = 0; like 8 8 = 1; enlist 8 = 3",
        "like 0 8 = 1");
  }

  // ---- III

  private static void trees() {
    Bounds.says("A TREE for some CODES (one at least) by a POOL is a CODE that is guessed (POOL 0: any CODE, POOL "
        + "1: one of these),");
    Bounds.run("law 3 0 = 0; least 0 = -5; least 1 = -5; enlist 5 = 1; least 0 = 1; least 1 = 1; sum 0 0 = 1",
        "sum 1 0 = 1");
    Bounds.run(Bounds.FOUR_DOUBLES, "least 0 = 3; least 1 = 4; best 0 0 0 = 1; best 0 1 0 = 0; sum 0 3 = 10",
        "sum 1 3 = -7");

    Bounds.says("and for each ANSWER to it but FULL that some of these CODES have, a TREE by that POOL for those "
        + "that have it.");
    Bounds.run("enlist 5 = 1; enlist 6 = 2; law 3 0 = 2; tree 0 0 = 2; node 0 0 = 5; node 1 0 = 6; node 2 0 = -1");
    // a tree behind an answer may not guess, by pool 1, a code that is left but has another answer
    Bounds.run("begin 3 5 = 125; enlist 0 = 1; enlist 31 = 2; enlist 36 = 3; enlist 55 = 4; enlist 62 = 5",
        "enlist 93 = 6; enlist 124 = 7; law 3 0 = 7; sum 1 3 = -7; sum 1 4 = 16; least 1 = 4; least 0 = 3");

    Bounds.says("For one CODE alone it guesses that; for more it guesses one to which not all of them have the same "
        + "ANSWER.");
    Bounds.run("enlist 63 = 1; law 3 0 = 1; best 0 0 0 = 63; best 1 0 0 = 63; tree 0 0 = 1; node 0 0 = 63",
        "enlist 62 = 2; best 0 0 0 = 2; best 1 0 0 = 62; best 0 1 0 = 62");

    Bounds.says("DEPTH: 1, if it has no TREES in it, else 1 more than the greatest of theirs.");
    Bounds.run("begin 1 8 = 8; least 0 = 8; least 1 = 8; law 2 7 = 1; least 0 = 1; least 1 = 1; begin 1 2 = 2",
        "least 0 = 2; begin 1 1 = 1; least 0 = 1");

    Bounds.says("SUM: how many CODES it is for, and the SUMS of the TREES in it.");
    Bounds.run("begin 1 8 = 8; sum 0 0 = 36; sum 1 0 = 36; begin 1 3 = 3; sum 0 0 = 6; begin 1 2 = 2; sum 0 0 = 3",
        "begin 1 1 = 1; sum 0 0 = 1");

    Bounds.says("A TREE is WITHIN d if d is 0 or its DEPTH is at most d.");
    Bounds.run("begin 1 8 = 8; sum 0 8 = 36; sum 0 7 = -7; sum 0 1 = -7; sum 0 0 = 36; sum 0 9 = 36; sum 0 20 = 36",
        "sum 1 8 = 36; sum 1 7 = -7");
    Bounds.run("begin 1 1 = 1; sum 0 1 = 1; sum 0 0 = 1; begin 1 2 = 2; sum 0 1 = -7; sum 0 2 = 3; sum 1 1 = -7",
        "sum 1 2 = 3");
  }

  private static void shortTrees() {
    Bounds.says("The SHORT TREE for some CODES, a POOL and d, if there is any WITHIN d: of those with the least SUM "
        + "of all that are WITHIN d those that guess the CODE with the least number first;");
    Bounds.run(Bounds.FOUR_DOUBLES, "tree 0 2 = -7; tree 0 3 = 5; node 0 0 = 1; tree 0 4 = 4; node 0 0 = 0",
        "tree 0 0 = 4; node 0 0 = 0; tree 1 3 = -7; tree 1 4 = 4; node 0 0 = 0; count 7 = 4");
    // 59 parts ten codes by ten answers, and is none of them; a tree of at most 3 guesses has here 14 of them
    Bounds.run(Bounds.listed(4, 6, 28, 63, 298, 317, 359, 366, 851, 923, 952, 1088), "sum 0 0 = 20; tree 0 0 = 11",
        "node 0 0 = 59; node 1 0 = 952; node 10 0 = 923; node 10 2 = 30; node 11 0 = -1; sum 0 2 = 20; sum 1 0 = 21");
    Bounds.run(Bounds.listed(2, 8, 3, 11, 15, 18, 19, 22, 27, 43, 44, 47), "sum 0 0 = 27; sum 0 3 = 30; sum 0 2 = -7",
        "tree 0 3 = 14; node 12 0 = 19; node 13 0 = 18; node 13 4 = 3; node 14 0 = -1; count 7 = 14");
    // 13 parts the four as well as 22, but is none of them; of the three, 9 does not part the others
    Bounds.run(Bounds.listed(3, 4, 21, 22, 51, 53), "best 0 0 0 = 13; sum 0 0 = 7; tree 0 0 = 4; node 0 0 = 22");
    Bounds.run(Bounds.listed(3, 4, 9, 55, 60), "sum 0 0 = 5; tree 0 0 = 3; node 0 0 = 55; node 1 0 = 9",
        "node 2 0 = 60; tree 1 0 = 3; node 0 0 = 55");
    // the least code that will do is one of the last
    Bounds.run(Bounds.listed(4, 6, 240, 354, 538, 676, 765, 916, 1097, 1158, 1208, 1287), "sum 0 0 = 21",
        "tree 0 0 = 11; node 0 0 = 1286; sum 1 0 = 22");
    Bounds.run(Bounds.listed(4, 6, 10, 193, 254, 480, 604, 812, 911, 1083, 1218, 1279), "sum 0 0 = 21; tree 0 0 = 10",
        "node 0 0 = 1279; tree 1 0 = 10; node 0 0 = 1279");
    // 333 and 332: a guess of another code would have the sum 4
    Bounds.run("enlist 63 = 1; enlist 62 = 2; law 3 0 = 2; tree 0 0 = 2; node 0 0 = 62; node 1 0 = 63");

    Bounds.says("its TREES are SHORT TREES, too, for d - 1 (for 0, if d is 0).");
    String sixDoubles = "begin 2 6 = 36; enlist 0 = 1; enlist 7 = 2; enlist 14 = 3; enlist 21 = 4; enlist 28 = 5;"
        + "enlist 35 = 6; law 3 0 = 6;";
    // behind the first guess, for 22, 33, 44, 55, a tree of at most 3 guesses begins with 23, one of any depth with 22
    Bounds.run(sixDoubles, "tree 0 4 = 8; node 0 0 = 1; node 1 0 = 15; node 2 0 = 28; node 3 0 = 35; node 4 0 = 14",
        "node 5 0 = 21; node 6 0 = 0; node 7 0 = 7; tree 0 5 = 7; node 0 0 = 1; node 1 0 = 14; tree 0 0 = 7",
        "node 1 0 = 14; node 2 0 = 21; tree 0 3 = -7; count 7 = 7");

    Bounds.says("THE TREE is empty at first.");
    Bounds.run("count 7 = 0", repeated(0, 5, "node 0 THIS = -1"));

    Bounds.says("Its NODES are numbered from 0 on: a TREE's first guess, then for each ANSWER to it but FULL, "
        + "rising, the NODES of the TREE there, wholly ahead of the next one's.");
    Bounds.run(sixDoubles, "tree 0 4 = 8; node -1 0 = -1; node 0 0 = 1; node 7 0 = 7; node 8 0 = -1; node 0 1 = -1",
        "node 1 1 = 0; node 2 1 = 1; node 3 1 = 2; node 4 1 = 1; node 5 1 = 4; node 6 1 = 0; node 7 1 = 6",
        "node 0 2 = -1; node 1 2 = 0; node 2 2 = 0; node 3 2 = 0; node 4 2 = 10; node 5 2 = 0; node 6 2 = 10",
        "node 7 2 = 0");
  }

  private static void plans() {
    Bounds.says("THE PLAN has NODES, at most 40, numbered from 0 on as they are told: the first one a CODE that is "
        + "guessed, each other one also a PARENT and an ANSWER.");
    Bounds.run("count 8 = 0; plan 0 0 0 = -1; plan -1 99 0 = 0; plan -1 0 0 = -1",
        repeated(1, 40, "plan 0 0 63 = THIS"), "count 8 = 40; plan 39 0 0 = -2; count 8 = 40; drop = 40",
        "count 8 = 0");

    Bounds.says("MEANT for the first NODE are all CODES that are LEFT; for another one those MEANT for its PARENT "
        + "that have its ANSWER to what the PARENT guesses.");
    Bounds.run(Bounds.FOUR_DOUBLES, "plan -1 0 1 = 0; plan 0 10 0 = 1; plan 0 0 18 = 2; plan 1 0 9 = 3",
        "plan 2 0 27 = 4; judge = 3; total = 10; show 9 = 1; tell 0 = 3; judge = -21; undo = 0; enlist 36 = 5",
        "judge = -24");
    // no code is meant for a node behind an answer that none has: its parent is not whole
    Bounds.run(Bounds.FOUR_DOUBLES, "plan -1 0 0 = 0; plan 0 0 9 = 1; plan 0 10 63 = 2; plan 2 10 63 = 3",
        "judge = -20; drop = 4; plan -1 0 0 = 0; plan 0 0 9 = 1; plan 1 0 18 = 2; plan 2 0 27 = 3; plan 3 10 63 = 4",
        "judge = -23");

    Bounds.says("A NODE is WHOLE if each ANSWER but FULL to what it guesses that a CODE MEANT for it has is that of "
        + "just one NODE whose PARENT it is, and all these have such an ANSWER.");
    String two = "enlist 5 = 1; enlist 6 = 2; law 3 0 = 2;";
    Bounds.run(two, "plan -1 0 5 = 0; judge = -20; plan 0 20 6 = 1; judge = 2; plan 0 20 6 = 2; judge = -20");
    Bounds.run(two, "plan -1 0 5 = 0; plan 0 20 6 = 1; plan 0 30 5 = 2; judge = -20");
    Bounds.run(two, "plan -1 0 5 = 0; plan 0 20 6 = 1; plan 0 10 6 = 2; judge = -20");
    Bounds.run(two, "plan -1 0 5 = 0; plan 0 20 6 = 1; plan 1 30 6 = 2; judge = -21");
    Bounds.run(two, "plan -1 0 5 = 0; plan 0 20 5 = 1; judge = -21; plan 1 20 6 = 2; judge = 3; total = 4");

    Bounds.says("THE PLAN is RIGHT if all NODES are WHOLE.");
    String longPlan = "begin 1 2 = 2; enlist 0 = 1; law 3 0 = 1;"
        + "plan -1 0 1 = 0;" + repeated(0, 38, "plan THIS 0 1 = NEXT");
    Bounds.run(longPlan, "judge = -58; plan 38 0 0 = 39; judge = 40; total = 40");
    Bounds.run(longPlan, "plan 38 0 1 = 39; judge = -59; total = -1");
  }

  // ---- IV

  private static void shelves() {
    Bounds.says("SHELVES 0 .. 5 each hold nothing (at first), a ROW of bytes (sort 1), chars (2), shorts (3), or a "
        + "KEPT GUESS (4) with the SORT that THE HAND had when it was kept.");
    Bounds.run(repeated(0, 6, "clear THIS = 0"), "clear -1 = -1; clear 6 = -1",
        repeated(0, 6, "rack THIS 1 2 = 2; clear THIS = 1"),
        repeated(0, 6, "rack THIS 2 2 = 2; clear THIS = 2; rack THIS 3 2 = 2; clear THIS = 3"),
        repeated(0, 6, "keep THIS = 3; clear THIS = 4; clear THIS = 0"));
    Bounds.run("rack 0 1 1 = 1; put 0 0 127 = 0; put 0 0 128 = 127; put 0 0 -128 = -128; put 0 0 -129 = -128",
        "put 0 0 0 = 127");
    Bounds.run("rack 0 2 1 = 1; put 0 0 65535 = 0; put 0 0 65536 = 65535; put 0 0 -1 = 0; put 0 0 0 = 65535");
    Bounds.run("rack 0 3 1 = 1; put 0 0 32767 = 0; put 0 0 32768 = 32767; put 0 0 -32768 = -32768",
        "put 0 0 -32769 = -32768; put 0 0 0 = 32767");
    Bounds.run("show 5 = 1; keep 5 = 1; law 3 0 = 0; sort = 0; kept 5 0 = 1; keep 0 = 0; law 0 0 = 64; kept 0 0 = 0",
        "kept 5 0 = 1");

    Bounds.says("WEIGHT of a KEPT GUESS: PLAIN: its PEGS that are not BLANK; BLANK: that less its BLANK ones; "
        + "FITTING: 10 more than PLAIN; SURE: twice what a FITTING one would have; LAST: 1 more than a SURE one.");
    for (int places = 1; places <= 5; places++) weights(places);

    Bounds.says("RANK: PLAIN 1; BLANK 0; FITTING 2; SURE 2; LAST 5 more than a SURE one.");
    Bounds.run("keep 0 = 3; kept 0 2 = 0; peg 0 0 = -1; keep 0 = 3; kept 0 2 = 0; show 5 = 1; keep 0 = 1",
        "kept 0 2 = 2; enlist 5 = 1; law 3 0 = 1; keep 1 = 4; kept 1 2 = 7; enlist 6 = 2; keep 2 = 2; kept 2 2 = 2",
        "show 7 = 0; keep 3 = 0; kept 3 2 = 1; kept 0 2 = 2");
  }

  /** Codes 0 and 1 differ at the last place; 0 is the one that is kept. */
  private static void weights(int p) {
    String begin = "begin " + p + " 3 = " + power(3, p) + ";";
    Bounds.run(begin, "keep 0 = 3; kept 0 1 = " + -p, "peg " + (p - 1) + " 0 = -1; keep 0 = " + (p == 1 ? 1 : 3),
        "kept 0 1 = " + (p == 1 ? 11 : 2 - p), "show 0 = 1; keep 1 = 1; kept 1 1 = " + (10 + p), "law 3 0 = 0",
        "keep 2 = 0; kept 2 1 = " + p, "enlist 0 = 1; keep 3 = 4; kept 3 1 = " + (2 * (10 + p) + 1), "enlist 1 = 2",
        "keep 4 = 2", "kept 4 1 = " + 2 * (10 + p));
    if (p > 1) Bounds.run(begin, "show 0 = 1; peg 0 -1 = 0; keep 0 = 3; kept 0 1 = " + (p - 2));
  }

  private static void host() {
    Bounds.says("The host's refusals, caught by their names: NOTHING (-11): nothing is held where something is "
        + "wanted;");
    Bounds.refused(Bounds.MIDDLE, "put 5 0 0 = -11", "copy 5 0 0 0 1 = -11", "copy 0 0 5 0 1 = -11",
        "copy 5 0 5 0 0 = -11", "take 5 0 = -11", "kept 5 0 = -11", "toss 5 = -11");
    Bounds.run("rack 5 1 1 = 1; put 5 0 1 = 0; clear 5 = 1; put 5 0 1 = -11; keep 5 = 3; kept 5 0 = 3; clear 5 = 4",
        "kept 5 0 = -11");

    Bounds.says("CAST (-12): it is of another sort;");
    Bounds.refused(Bounds.MIDDLE, "put 3 0 0 = -12", "copy 3 0 0 0 1 = -12", "copy 0 0 3 0 1 = -12",
        "copy 3 0 4 0 1 = -12", "copy 0 0 1 0 1 = -12", "copy 1 0 2 0 1 = -12", "copy 2 0 0 0 1 = -12",
        "take 3 0 = -12", "kept 0 0 = -12", "kept 1 0 = -12", "kept 2 0 = -12", "toss 0 = -12", "toss 1 = -12",
        "toss 2 = -12");

    Bounds.says("PLACE (-13): a ROW has no such place;");
    Bounds.refused(Bounds.MIDDLE, "put 0 6 0 = -13", "put 0 -1 0 = -13", "put 1 6 0 = -13", "put 2 4 0 = -13",
        "copy 0 6 0 0 1 = -13", "take 0 5 = -13", "take 2 3 = -13", "peg 2 0 = -13", "hand 2 = -13", "hand -1 = -13");

    Bounds.says("SIZE (-14): a size below 0;");
    Bounds.refused(Bounds.MIDDLE, "rack 0 1 -1 = -14", "rack 3 2 -1 = -14", "rack 5 3 MIN = -14");
    Bounds.run("rack 5 3 0 = 0; clear 5 = 3");

    Bounds.says("THROWN (-15): a failure that is none is thrown.");
    Bounds.refused("keep 0 = 3;", "toss 0 = -15");
    Bounds.run("keep 0 = 3; toss 0 = -15; peg 2 0 = -1; toss 0 = -15; keep 0 = 3; toss 0 = 4");
  }

  // ---- V

  private static void refusals() {
    Bounds.says("What is refused changes nothing.");
    Bounds.refused(Bounds.SET, "begin 0 3 = -1", "begin 5 6 = -5", "law 4 0 = -1", "enlist 64 = -1", "lies 3 = -1",
        "undo = -1");
    for (String state : new String[] {Bounds.MIDDLE, Bounds.LYING}) {
      Bounds.refused(state, "begin 6 8 = -1", "begin 5 8 = -5", "law 0 0 = -3", "enlist 1 = -3", "lies 0 = -3",
          "peg 0 8 = -16", "peg 2 0 = -13", "show 64 = -1", "hand 2 = -13", "answer 0 64 = -1", "reply 64 = -1",
          "tell 3 = -1", "quarrel 5 = -1", "turn 2 0 = -1", "turn 0 7 = -1", "left 64 = -1", "falses 64 = -1",
          "part 0 2 = -1", "among 4 = -1", "like 0 64 = -1", "like 0 0 = -5", "least 2 = -1", "sum 0 21 = -1",
          "best 2 0 0 = -1", "tree 2 0 = -1", "node 5 0 = -1", "plan -1 0 0 = -1", "plan 0 3 0 = -1",
          "plan 0 0 64 = -1", "rack 0 4 1 = -1", "rack 0 1 61 = -1", "rack 0 1 -1 = -14", "keep 6 = -1",
          "clear 6 = -1", "put 0 6 1 = -13", "at 6 0 = ARGUMENT", "at 0 6 = STATE", "copy 0 0 0 1 6 = -13",
          "take 0 4 = -16", "take 2 2 = -16", "kept 3 9 = -1", "kept 3 6 = -13", "toss 0 = -12", "count 13 = -1");
    }
    Bounds.refused(Bounds.LYING, "least 0 = -6", "sum 0 0 = -6", "best 1 0 0 = -6", "tree 0 0 = -6", "judge = -6",
        "total = -1");
    Bounds.refused(Bounds.MIDDLE, "tell 20 = -4", "tree 0 2 = -7", "sum 1 3 = -7", "best 1 0 1 = -7");
    Bounds.refused(Bounds.SET + "law 0 0 = 64;", "least 0 = -5", "sum 0 0 = -5", "best 0 1 0 = -5", "tree 0 0 = -5",
        "total = -1");

    Bounds.says("Of several refusals the one that is named first in a method's words is answered.");
    severalOfPlay();
    severalOfShelves();

    Bounds.says("NONE (-1): there is no such thing, or a number is not as said.");
    Bounds.refused(Bounds.MIDDLE, "show -1 = -1", "show 64 = -1", "left 4 = -1", "left -1 = -1", "turn -1 0 = -1",
        "turn 2 6 = -1", "part -1 0 = -1", "node -1 0 = -1", "node 0 5 = -1", "count -1 = -1", "among -1 = -1",
        "rack -1 1 1 = -1", "keep -1 = -1");

    Bounds.says("All memory is the class's own.");
    CourtRun one = new CourtRun();
    CourtRun other = new CourtRun();
    for (String call : CourtRun.callsOf(Bounds.MIDDLE)) Bounds.ask(one, call);
    String asNew = "count 2 = 64; count 5 = 0; count 7 = 0; count 8 = 0; count 11 = 0; count 12 = 0; hand 0 = -1;"
        + "clear 0 = 0; clear 3 = 0; quarrel -1 = -1; falses 0 = 0";
    for (String call : CourtRun.callsOf(asNew)) Bounds.ask(other, call);
  }

  private static void severalOfPlay() {
    String tenTurns = repeated(0, 10, "tell 0 = 64");
    Bounds.run("begin 6 8 = -1; begin 5 9 = -1; begin 6 9 = -1; begin 5 8 = -5");
    Bounds.refused(Bounds.MIDDLE, "law 4 0 = -1", "enlist 64 = -1", "lies 3 = -1", "peg 2 8 = -13",
        "peg -1 -2 = -13");
    Bounds.run("begin 4 8 = 4096", repeated(0, 300, "enlist THIS = NEXT"), "enlist 4096 = -1; tell 0 = 4096",
        "enlist 300 = -3; enlist 4096 = -1");
    Bounds.run(tenTurns, "tell 40 = -1; tell 4 = -1; tell 30 = -2; tell 0 = -2");
    Bounds.run("begin 4 8 = 4096; among 4 = -1; among -1 = -1; among 0 = -5; like 4096 0 = -1; like 0 4096 = -1",
        "like 0 0 = -5");
    Bounds.run("lies 1 = 0; least 2 = -1; least 0 = -6; sum 2 0 = -1; sum 0 21 = -1; sum 0 0 = -6; best 0 0 21 = -1",
        "best 2 0 0 = -1; best 0 2 0 = -1; best 0 0 0 = -6; tree 2 0 = -1; tree 0 -1 = -1; tree 0 1 = -6; lies 0 = 1",
        "least 2 = -1; sum 0 21 = -1; sum 0 1 = -5; best 1 0 1 = -5; tree 0 1 = -5; best 1 0 21 = -1",
        "tree 0 21 = -1");
    Bounds.run("lies 1 = 0; judge = -1; plan -1 0 0 = 0; judge = -6; law 2 -1 = 0; judge = -1; drop = 1; judge = -1");
    Bounds.run("plan -1 0 0 = 0", repeated(1, 40, "plan 0 0 0 = THIS"), "plan 40 0 0 = -1; plan -1 0 0 = -1",
        "plan 0 4 0 = -1; plan 0 0 64 = -1; plan 0 0 0 = -2");
  }

  private static void severalOfShelves() {
    Bounds.refused(Bounds.MIDDLE, "rack 6 1 -1 = -1", "rack 0 4 -1 = -1", "rack 0 0 -1 = -1", "put 6 9 0 = -1",
        "put 5 9 0 = -11", "put 3 9 0 = -12", "at 6 9 = ARGUMENT", "at 5 9 = STATE", "copy 6 0 5 0 -1 = -1",
        "copy 5 0 6 0 -1 = -1", "copy 3 0 5 0 -1 = -11", "copy 5 0 3 0 -1 = -11", "copy 0 9 5 9 9 = -11",
        "copy 0 9 1 9 9 = -12", "copy 0 9 3 9 9 = -12", "take 6 -1 = -1", "take 5 -1 = -11", "take 3 -1 = -12",
        "take 0 5 = -13", "take 2 3 = -13", "kept 6 9 = -1", "kept 5 9 = -1", "kept 0 9 = -1", "kept 5 8 = -11",
        "kept 0 8 = -12");
  }
}
