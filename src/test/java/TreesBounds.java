/** The sentences of promises 21 to 29 that name a boundary case. */
final class TreesBounds {
  private static final String TWO_CODES = "enlist 5 = 1; enlist 6 = 2; law 3 0 = 2;";
  private static final String NONE_LEFT = Bounds.SET + "law 2 -1 = 0;";
  private static final String ELEVEN_LEFT = "begin 2 8 = 64;" + repeated(0, 11, "enlist THIS = NEXT") + "law 3 0 = 11;";
  private static final String MANY_CODES = "begin 4 7 = 2401; enlist 0 = 1; law 3 0 = 1;";
  private static final String RIGHT_PLAN = Bounds.FOUR_DOUBLES + "plan -1 0 1 = 0; plan 0 10 0 = 1; plan 0 0 18 = 2;"
        + "plan 1 0 9 = 3; plan 2 0 27 = 4;";

  private TreesBounds() { }

  static void all() {
    least();
    sum();
    best();
    tree();
    node();
    plan();
    drop();
    judge();
    total();
  }

  private static String repeated(int from, int to, String call) {
    return CourtRun.repeated(from, to, call);
  }

  /** Refusals that least(), sum(), best() and tree() share. */
  private static void kinds(String... calls) {
    for (int lies = 1; lies <= 2; lies++) {
      for (String call : calls) Bounds.refused(Bounds.SET + "lies " + lies + " = 0;", call + " = -6");
    }
    for (String call : calls) Bounds.refused("lies 1 = 0;", call + " = -6");
  }

  private static void bigs(String... calls) {
    for (String call : calls) {
      Bounds.refused(NONE_LEFT, call + " = -5");
      Bounds.refused(ELEVEN_LEFT, call + " = -5");
      Bounds.refused(MANY_CODES, call + " = -5");
      Bounds.refused("begin 5 5 = 3125; enlist 0 = 1; law 3 0 = 1;", call + " = -5");
      Bounds.refused("", call + " = -5");
    }
  }

  private static void least() {
    Bounds.in("Promise 21");
    Bounds.says("The least DEPTH of a TREE for all CODES that are LEFT by a POOL (0, 1).");
    Bounds.run(Bounds.FOUR_DOUBLES, "least 0 = 3; least 1 = 4; show 0 = 1; tell 20 = 1; least 0 = 1; least 1 = 1",
        "undo = 0; least 0 = 3; least 1 = 4");
    Bounds.run(TWO_CODES, "least 0 = 2; least 1 = 2; begin 1 8 = 8; least 0 = 8; least 1 = 8; begin 1 1 = 1",
        "least 0 = 1; least 1 = 1");

    // as many are left as before, but others
    Bounds.run("law 2 1 = 3; least 0 = 2; sum 0 0 = 6; best 1 0 0 = 1; best 0 0 0 = 6; best 1 1 0 = 1; law 2 8 = 3",
        "least 0 = 2; sum 0 0 = 6; best 1 0 0 = 11; best 0 0 0 = 11; best 1 1 0 = 47; tree 0 0 = 4; node 1 0 = 62");
    Bounds.run("begin 1 8 = 8; law 2 3 = 1; best 0 0 0 = 3; law 2 4 = 1; best 0 0 0 = 4; best 0 1 0 = 4; law 2 8 = 0",
        "best 0 0 0 = -5");

    Bounds.says("NONE: no such POOL;");
    Bounds.refused(Bounds.MIDDLE, "least 2 = -1", "least -1 = -1", "least MAX = -1", "least MIN = -1");

    Bounds.says("KIND: LIES are not 0;");
    kinds("least 0", "least 1");
    Bounds.run(TWO_CODES, "lies 1 = 0; least 0 = -6; lies 2 = 1; least 0 = -6; lies 0 = 2; least 0 = 2");

    Bounds.says("BIG: none is LEFT, or more than 10 are, or there are more than 1296 CODES.");
    bigs("least 0", "least 1");
    Bounds.run("begin 2 8 = 64; law 3 0 = 0; least 0 = -5; least 1 = -5", repeated(0, 10, "enlist THIS = NEXT"),
        "least 0 = 5; least 1 = 7; enlist 10 = 11; least 0 = -5; least 1 = -5");
    Bounds.run("begin 4 6 = 1296; law 3 0 = 0", repeated(0, 10, "enlist THIS = NEXT"), "least 0 = 3; least 1 = 5",
        "enlist 1295 = 11; least 0 = -5");
    Bounds.run("begin 4 6 = 1296; law 3 0 = 0; least 0 = -5; enlist 1295 = 1; least 0 = 1; least 1 = 1",
        "begin 4 7 = 2401; law 2 0 = 1; least 0 = -5; least 1 = -5");
  }

  private static void sum() {
    Bounds.in("Promise 22");
    Bounds.says("The least SUM of a TREE WITHIN depth for these by a POOL.");
    Bounds.run(Bounds.FOUR_DOUBLES, "sum 0 0 = 10; sum 1 0 = 10; sum 0 3 = 10; sum 1 4 = 10; sum 0 20 = 10",
        "show 0 = 1; tell 20 = 1; sum 0 0 = 1; sum 0 1 = 1; sum 1 20 = 1");

    Bounds.says("NONE: no such POOL, depth is not 0 .. 20;");
    Bounds.run(TWO_CODES, "sum 0 0 = 3; sum 1 0 = 3; sum 0 20 = 3; sum 1 20 = 3");
    Bounds.refused(Bounds.MIDDLE, "sum 2 0 = -1", "sum -1 0 = -1", "sum 0 21 = -1", "sum 0 -1 = -1", "sum 1 21 = -1",
        "sum MAX 0 = -1", "sum 0 MAX = -1", "sum 0 MIN = -1");

    Bounds.says("KIND, BIG as least();");
    kinds("sum 0 0", "sum 1 1", "sum 0 20");
    bigs("sum 0 0", "sum 1 1", "sum 0 20");
    Bounds.run("begin 4 6 = 1296; law 2 0 = 1; sum 0 1 = 1; law 3 0 = 0", repeated(0, 10, "enlist THIS = NEXT"),
        "sum 0 0 = 25; sum 1 0 = 29; enlist 10 = 11; sum 0 0 = -5; sum 1 0 = -5");

    Bounds.says("NO_TREE: there is none.");
    Bounds.refused(Bounds.MIDDLE, "sum 0 1 = -7", "sum 0 2 = -7", "sum 1 3 = -7");
    Bounds.run("begin 1 8 = 8; sum 0 7 = -7; sum 0 8 = 36; sum 1 7 = -7; sum 1 8 = 36; begin 1 2 = 2; sum 0 1 = -7",
        "sum 0 2 = 3; begin 1 1 = 1; sum 0 1 = 1");
  }

  private static void best() {
    Bounds.in("Promise 23");
    Bounds.says("The least CODE that a TREE guesses first whose DEPTH is least (how 0; depth doesn't count, but "
        + "must be 0 .. 20), whose SUM is least of those WITHIN depth (how 1).");
    Bounds.run(TWO_CODES, "best 0 0 0 = 1; best 0 0 1 = 1; best 0 0 20 = 1; best 0 0 21 = -1; best 0 0 -1 = -1",
        "best 0 1 1 = 5; best 0 1 20 = 5; best 0 1 21 = -1; best 1 0 0 = 5; best 1 0 2 = 5; best 1 0 20 = 5",
        "best 1 1 2 = 5");
    Bounds.run(Bounds.FOUR_DOUBLES, "best 0 0 0 = 1; best 1 0 0 = 0; best 1 0 3 = 1; best 1 0 4 = 0; best 0 1 0 = 0",
        "best 1 1 4 = 0; show 18 = 1; tell 20 = 1; best 0 0 0 = 18; best 1 0 1 = 18; best 1 1 0 = 18");

    Bounds.says("NONE: no such how, POOL, depth;");
    Bounds.refused(Bounds.MIDDLE, "best 2 0 0 = -1", "best -1 0 0 = -1", "best 0 2 0 = -1", "best 0 -1 0 = -1",
        "best 1 2 0 = -1", "best 0 0 21 = -1", "best 0 0 -1 = -1", "best 1 0 21 = -1", "best 1 0 -1 = -1",
        "best MAX 0 0 = -1", "best 0 MIN 0 = -1", "best 1 0 MAX = -1", "best 1 0 MIN = -1");

    Bounds.says("KIND, BIG as least();");
    kinds("best 0 0 0", "best 1 1 1");
    bigs("best 0 0 0", "best 1 1 1", "best 0 1 20");
    Bounds.run("begin 4 6 = 1296; law 3 0 = 0", repeated(0, 10, "enlist THIS = NEXT"), "best 0 0 0 = 48",
        "best 1 0 0 = 78; best 1 1 0 = 6; enlist 10 = 11; best 0 0 0 = -5; best 1 0 0 = -5");

    Bounds.says("NO_TREE (how 1).");
    Bounds.refused(Bounds.MIDDLE, "best 1 0 2 = -7", "best 1 0 1 = -7", "best 1 1 3 = -7");
    Bounds.run(Bounds.FOUR_DOUBLES, "best 1 0 2 = -7; best 1 0 3 = 1; best 0 0 2 = 1; best 0 0 1 = 1",
        "best 1 1 3 = -7; best 1 1 4 = 0; best 0 1 3 = 0");
  }

  private static void tree() {
    Bounds.in("Promise 24");
    Bounds.says("THE TREE becomes the SHORT TREE for all CODES that are LEFT: how many NODES.");
    Bounds.run("enlist 9 = 1; law 3 0 = 1; tree 0 0 = 1; count 7 = 1; node 0 0 = 9; enlist 8 = 2; count 7 = 1",
        "tree 1 0 = 2; node 0 0 = 8; node 1 0 = 9; node 2 0 = -1; tell 0 = 2; count 7 = 2; undo = 0; law 3 0 = 2",
        "count 7 = 2");
    Bounds.run("begin 1 8 = 8; tree 0 0 = 8; node 7 0 = 7; node 8 0 = -1; law 2 3 = 1; tree 0 1 = 1; node 0 0 = 3",
        "node 1 0 = -1");

    Bounds.says("NONE, KIND, BIG, NO_TREE as sum().");
    Bounds.refused(Bounds.MIDDLE, "tree 2 0 = -1", "tree -1 0 = -1", "tree 0 21 = -1", "tree 0 -1 = -1",
        "tree 1 MAX = -1", "tree MIN 0 = -1", "tree 0 1 = -7", "tree 0 2 = -7", "tree 1 3 = -7");
    kinds("tree 0 0", "tree 1 20");
    bigs("tree 0 0", "tree 1 1");
    Bounds.run("begin 4 6 = 1296; law 3 0 = 0", repeated(0, 10, "enlist THIS = NEXT"), "tree 0 0 = 11; tree 1 0 = 10",
        "enlist 10 = 11; tree 0 0 = -5; count 7 = 10");
    Bounds.run(Bounds.FOUR_DOUBLES, "tree 0 20 = 4; tree 0 3 = 5; tree 1 4 = 4; tree 1 20 = 4");
  }

  private static void node() {
    Bounds.in("Promise 25");
    Bounds.says("Of NODE k of THE TREE: what 0 the CODE that is guessed, 1 the NODE from which it comes, 2 the "
        + "ANSWER there (1, 2: -1 for NODE 0), 3 how many CODES it is for, 4 which guess it is (1 for NODE 0, 2 "
        + "..).");
    Bounds.run(Bounds.FOUR_DOUBLES, "tree 0 3 = 5; node 0 0 = 1; node 0 1 = -1; node 0 2 = -1; node 0 3 = 4",
        "node 0 4 = 1; node 1 0 = 18; node 1 1 = 0; node 1 2 = 0; node 1 3 = 2; node 1 4 = 2; node 2 0 = 27",
        "node 2 1 = 1; node 2 2 = 0; node 2 3 = 1; node 2 4 = 3; node 3 0 = 0; node 3 1 = 0; node 3 2 = 10",
        "node 3 3 = 2; node 3 4 = 2; node 4 0 = 9; node 4 1 = 3; node 4 2 = 0; node 4 3 = 1; node 4 4 = 3");
    Bounds.run("begin 1 8 = 8; tree 0 0 = 8", repeated(0, 8, "node THIS 0 = THIS; node THIS 4 = NEXT"),
        "node 7 1 = 6; node 7 2 = 0; node 7 3 = 1; node 0 3 = 8");

    Bounds.says("NONE: no such NODE, what.");
    Bounds.refused(Bounds.MIDDLE, "node 5 0 = -1", "node -1 0 = -1", "node MAX 0 = -1", "node MIN 0 = -1",
        "node 0 5 = -1", "node 0 -1 = -1", "node 4 MAX = -1", "node 4 MIN = -1");
    Bounds.run("node 0 0 = -1; node 0 4 = -1; node -1 0 = -1; enlist 0 = 1; law 3 0 = 1; tree 0 0 = 1; node 0 0 = 0",
        "node 1 0 = -1; node 0 4 = 1; node 0 5 = -1");
  }

  private static void plan() {
    Bounds.in("Promise 26");
    Bounds.says("A NODE comes to THE PLAN: its number.");
    Bounds.run("plan -1 0 0 = 0; plan 0 0 63 = 1; plan 1 30 0 = 2; plan 0 0 63 = 3; count 8 = 4");

    Bounds.says("NONE: parent is no NODE of it (for the first one: not -1), or answer can't be told as an ANSWER "
        + "(not asked for the first one), or guess is no CODE;");
    Bounds.refused("", "plan 0 0 0 = -1", "plan -2 0 0 = -1", "plan 1 0 0 = -1", "plan -1 0 64 = -1",
        "plan -1 0 -1 = -1", "plan MAX 0 0 = -1", "plan MIN 0 0 = -1");
    Bounds.run("plan -1 4 0 = 0; drop = 1; plan -1 MAX 63 = 0; drop = 1; plan -1 MIN 0 = 0; drop = 1",
        "plan -1 -1 0 = 0; plan 0 30 0 = 1; plan 0 21 0 = 2; plan 0 3 0 = 3; plan 3 0 63 = 4");
    Bounds.refused(Bounds.MIDDLE, "plan -1 0 0 = -1", "plan 4 0 0 = -1", "plan -2 0 0 = -1", "plan MAX 0 0 = -1",
        "plan MIN 0 0 = -1", "plan 0 -1 0 = -1", "plan 0 3 0 = -1", "plan 0 12 0 = -1", "plan 0 21 0 = -1",
        "plan 0 30 0 = -1", "plan 0 MAX 0 = -1", "plan 0 MIN 0 = -1", "plan 0 0 64 = -1", "plan 0 0 -1 = -1",
        "plan 3 20 MAX = -1");

    Bounds.says("FULL: 40 NODES.");
    String forty = "plan -1 0 0 = 0;" + repeated(1, 40, "plan 0 0 5 = THIS");
    Bounds.run("plan -1 0 0 = 0", repeated(1, 39, "plan 0 0 5 = THIS"), "count 8 = 39; plan 38 0 5 = 39",
        "plan 39 0 5 = -2; count 8 = 40; drop = 40; plan -1 0 0 = 0");
    Bounds.refused(forty, "plan 0 0 5 = -2", "plan 39 30 63 = -2");
  }

  private static void drop() {
    Bounds.in("Promise 27");
    Bounds.says("THE PLAN is empty: how many NODES it had.");
    Bounds.run("drop = 0; count 8 = 0; plan -1 0 0 = 0; drop = 1; drop = 0; judge = -1; plan 0 0 0 = -1",
        "plan -1 0 0 = 0", repeated(1, 40, "plan 0 0 5 = THIS"), "drop = 40; count 8 = 0");
    Bounds.run(RIGHT_PLAN, "judge = 3; drop = 5; judge = -1; total = -1; plan -1 0 0 = 0; plan 0 0 9 = 1",
        "plan 1 0 18 = 2; plan 2 0 27 = 3; judge = 4; total = 10");
    // what was told twice, or lay deep, must not be seen in the next plan
    Bounds.run(Bounds.FOUR_DOUBLES, "plan -1 0 0 = 0; plan 0 0 9 = 1; plan 0 0 9 = 2; plan 2 0 9 = 3; plan 3 0 9 = 4",
        "plan 4 0 9 = 5; drop = 6; show 0 = 1; tell 20 = 1; plan -1 0 0 = 0; judge = 1; total = 1");
  }

  private static void judge() {
    Bounds.in("Promise 28");
    Bounds.says("THE PLAN is RIGHT: the most NODES one behind the other, from the first one on;");
    Bounds.run("enlist 9 = 1; law 3 0 = 1; plan -1 0 9 = 0; judge = 1; enlist 8 = 2; judge = -20; plan 0 20 8 = 1",
        "judge = 2");
    Bounds.run(RIGHT_PLAN, "judge = 3; judge = 3");
    Bounds.run("begin 1 2 = 2; enlist 0 = 1; law 3 0 = 1; plan -1 0 1 = 0", repeated(0, 38, "plan THIS 0 1 = NEXT"),
        "plan 38 0 0 = 39; judge = 40");

    Bounds.says("else -20 less the first NODE that is not WHOLE.");
    Bounds.run(Bounds.FOUR_DOUBLES, "plan -1 0 0 = 0; judge = -20; plan 0 0 9 = 1; judge = -21; plan 1 0 18 = 2",
        "judge = -22; plan 2 0 27 = 3; judge = 4; plan 3 20 27 = 4; judge = -23; plan 0 10 27 = 5; judge = -20");
    Bounds.run("begin 1 2 = 2; enlist 0 = 1; law 3 0 = 1; plan -1 0 1 = 0", repeated(0, 39, "plan THIS 0 1 = NEXT"),
        "judge = -59");
    Bounds.refused(RIGHT_PLAN + "plan 4 20 27 = 5;", "judge = -24");

    Bounds.says("NONE: it is empty, or no CODE is LEFT;");
    Bounds.refused("", "judge = -1");
    Bounds.refused(NONE_LEFT, "judge = -1");
    Bounds.run("enlist 9 = 1; law 3 0 = 1; judge = -1; plan -1 0 9 = 0; judge = 1; law 2 -1 = 0; judge = -1",
        "law 3 0 = 1; judge = 1; drop = 1; judge = -1");

    Bounds.says("KIND: LIES are not 0.");
    Bounds.refused(Bounds.SET + "lies 1 = 0;", "judge = -6");
    Bounds.refused(Bounds.SET + "lies 2 = 0;", "judge = -6");
    Bounds.refused(Bounds.LYING, "judge = -6");
    Bounds.run(RIGHT_PLAN, "lies 1 = 0; judge = -6; lies 0 = 1; judge = 3");
  }

  private static void total() {
    Bounds.in("Promise 29");
    Bounds.says("If judge() is above 0: the sum, over all CODES that are LEFT, of how many guesses THE PLAN makes "
        + "up to the one that is it, that one too; else NONE.");
    Bounds.run(RIGHT_PLAN, "total = 10; lies 1 = 0; total = -1; lies 2 = 1; total = -1; lies 0 = 2; total = 10",
        "law 2 -1 = 0; total = -1; law 3 0 = 4; total = 10; plan 4 10 0 = 5; total = -1");
    Bounds.run("total = -1; enlist 9 = 1; law 3 0 = 1; total = -1; plan -1 0 8 = 0; total = -1; plan 0 20 9 = 1",
        "total = 2; drop = 2; total = -1; plan -1 0 9 = 0; total = 1");
    Bounds.run("begin 1 8 = 8; plan -1 0 0 = 0", repeated(0, 7, "plan THIS 0 NEXT = NEXT"), "judge = 8; total = 36");
    Bounds.refused("", "total = -1");
    Bounds.refused(NONE_LEFT, "total = -1");
    Bounds.refused(Bounds.LYING, "total = -1");
  }
}
