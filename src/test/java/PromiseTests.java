/**
 * For each promise of the document: ordinary inputs, the edges that it names, and wrong inputs. What is due was worked
 * out from the document's words. A run is a text of calls on a new object, as CourtRun reads it.
 */
public final class PromiseTests {
  private static int promise = 0;
  private static int asked = 0;
  private static int wrong = 0;

  private PromiseTests() { }

  private static void run(String... texts) {
    ask(new CourtRun(), texts);
  }

  private static void ask(CourtRun court, String... texts) {
    for (String call : CourtRun.callsOf(texts)) {
      asked++;
      String fault = court.faultOf(call);
      if (!fault.isEmpty()) {
        wrong++;
        System.out.println("promise " + promise + ": " + fault);
      }
    }
  }

  private static String repeated(int from, int to, String call) {
    return CourtRun.repeated(from, to, call);
  }

  /** Codes 00, 11, 22, 33 of 2 places and 8 colours: those that no guess tells apart well. */
  private static final String FOUR_DOUBLES =
      "begin 2 8 = 64; enlist 0 = 1; enlist 9 = 2; enlist 18 = 3; enlist 27 = 4; law 3 0 = 4;";
  private static final String TWO_CODES = "enlist 5 = 1; enlist 6 = 2; law 3 0 = 2;";

  private static void promise1NewObject() {
    run("count 0 = 3; count 1 = 4; count 2 = 64; count 3 = 64; count 4 = 64; count 5 = 0; count 6 = 1",
        repeated(7, 13, "count THIS = 0"),
        "hand 0 = -1; hand 1 = -1; hand 2 = -1; hand 3 = -13; sort = 3; quarrel -1 = -1; undo = -1; judge = -1",
        "node 0 0 = -1; drop = 0; turn 0 0 = -1", repeated(0, 6, "clear THIS = 0"));
    CourtRun one = new CourtRun();
    CourtRun other = new CourtRun();
    ask(one, "begin 2 3 = 9; rack 0 1 3 = 3; hand 9 = -13");
    ask(other, "count 2 = 64; clear 0 = 0; count 12 = 0");
  }

  private static void promise2Begin() {
    run("begin 1 1 = 1; begin 5 1 = 1; begin 1 8 = 8; begin 2 8 = 64; begin 4 8 = 4096; begin 5 5 = 3125; begin 5 6 = -5",
        "begin 5 8 = -5; begin 0 4 = -1; begin 6 1 = -1; begin 6 8 = -1; begin 3 0 = -1; begin 3 9 = -1; begin -1 4 = -1",
        "begin 3 -1 = -1; begin MAX 2 = -1; begin 2 MIN = -1; count 0 = 5; count 1 = 5; count 2 = 3125; count 4 = 3125");
    run(TWO_CODES, "tree 0 0 = 2; plan -1 0 5 = 0; show 5 = 2; tell 30 = 1; show 6 = 0; tell 30 = -4; keep 2 = 0",
        "rack 3 2 4 = 4; put 3 1 77 = 0; quarrel -1 = 2; begin 9 9 = -1; count 5 = 1; begin 5 7 = -5; count 5 = 1",
        "count 7 = 2; quarrel -1 = 2; hand 2 = 2; begin 2 3 = 9; count 0 = 2; count 1 = 3; count 2 = 9; count 3 = 9",
        "count 4 = 9; count 5 = 0; count 6 = 1; count 7 = 0; count 8 = 0; count 9 = 0; count 10 = 0; count 11 = 0",
        "hand 0 = -1; hand 1 = -1; sort = 3; quarrel -1 = -1; node 0 0 = -1; undo = -1; enlist 5 = 1; kept 2 3 = 3",
        "kept 2 0 = 0; at 3 1 = 77; clear 3 = 2; clear 2 = 4");
    run("lies 2 = 0; begin 3 4 = 64; lies 0 = 0; law 2 1 = 3; begin 3 4 = 64; count 4 = 64; law 3 0 = 0");
    run("begin 2 2 = 4; tell 0 = 4; show 0 = 1; tell 20 = 1; falses 1 = 1; begin 2 2 = 4; falses 1 = 0; begin 4 4 = 256",
        "begin 2 2 = 4; left 3 = 3; left 4 = -1");
    run("hand 3 = -13; put 0 0 0 = -11; begin 5 6 = -5; begin 0 1 = -1; count 12 = 2; begin 1 1 = 1; count 12 = 0",
        "hand 1 = -13; rack 0 1 -1 = -14; toss 0 = -11; count 12 = 3; begin 1 1 = 1; count 12 = 0");
  }

  private static void promise3Law() {
    run("law 1 0 = 24; left 0 = 6; left 23 = 57; law 2 0 = 1; law 2 9 = 1; left 0 = 63; law 2 4 = 12; law 2 -1 = 0",
        "law 2 10 = 0; law 2 MAX = 0; law 2 MIN = 0; count 4 = 0; law 3 7 = 0; law 0 5 = 64; law 4 0 = -1; law -1 0 = -1",
        "law MAX 0 = -1; count 10 = 0; law 1 9 = 24; count 10 = 1; law 5 0 = -1; count 3 = 24; tell 0 = 24; law 0 0 = -3",
        "law 1 0 = -3; law 9 0 = -1; count 10 = 1; count 3 = 24; undo = 0; law 0 0 = 64");
    run("begin 3 2 = 8; law 1 0 = 0; count 4 = 0; count 3 = 0; law 2 1 = 3; left 0 = 1; left 1 = 2; left 2 = 4");
  }

  private static void promise4Enlist() {
    run("enlist 5 = 1; enlist 5 = 1; enlist 63 = 2; enlist 64 = -1; enlist -1 = -1; enlist MIN = -1; count 3 = 64",
        "law 3 0 = 2; enlist 0 = 3; count 3 = 3; count 4 = 3; left 0 = 0; left 1 = 5; left 2 = 63; tell 0 = 3",
        "enlist 1 = -3; enlist 0 = -3; enlist 64 = -1; count 11 = 3; undo = 0; enlist 1 = 4; law 0 0 = 64; law 3 0 = 4");
    run("begin 4 8 = 4096", repeated(0, 300, "enlist THIS = NEXT"),
        "enlist 300 = -2; enlist 299 = 300; enlist 4095 = -2; enlist 4096 = -1; count 11 = 300; law 3 0 = 300; tell 0 = 300",
        "enlist 300 = -3; undo = 0; begin 4 8 = 4096; enlist 300 = 1");
  }

  private static void promise5Lies() {
    run("lies 1 = 0; lies 2 = 1; lies 3 = -1; lies -1 = -1; count 9 = 2; lies 0 = 2; tell 0 = 64; lies 1 = -3; lies 3 = -1",
        "lies -1 = -1; count 9 = 0; undo = 0; lies 1 = 0; count 9 = 1");
    run("begin 1 3 = 3; lies 1 = 0; show 0 = 1; tell 0 = 3; tell 0 = 2; left 0 = 1; tell 0 = 2; falses 0 = 3; falses 1 = 0");
    run("begin 1 3 = 3; lies 2 = 0; show 0 = 1; tell 0 = 3; tell 0 = 3; tell 0 = 2");
  }

  private static void promise6Peg() {
    run("peg 0 3 = -1; peg 0 0 = 3; peg 2 -1 = -1; peg 0 -1 = 0; hand 0 = -1; peg 1 2 = -1; peg 0 4 = -16; peg 0 -2 = -16",
        "peg 1 MIN = -16; peg 1 MAX = -16; count 12 = 0; peg 3 0 = -13; peg -1 0 = -13; peg 3 9 = -13; peg MAX 0 = -13",
        "count 12 = 4; hand 0 = -1; hand 1 = 2; hand 2 = -1; reply 8 = 10; reply 32 = 1");
  }

  private static void promise7Show() {
    run("show 57 = 1; hand 0 = 3; hand 1 = 2; hand 2 = 1; show 64 = -1; show -1 = -1; hand 0 = 3; hand 2 = 1; show 0 = 1",
        "hand 0 = 0; law 3 0 = 0; show 5 = 0");
    run(TWO_CODES, "show 5 = 2; show 6 = 2; show 7 = 0; reply 7 = 30");
    run("enlist 5 = 1; law 3 0 = 1; show 5 = 4; show 6 = 0");
    run("begin 5 5 = 3125; show 3123 = 1; hand 0 = 4; hand 4 = 3; hand 5 = -13");
  }

  private static void promise8Hand() {
    run("hand 0 = -1; peg 1 2 = -1; hand 1 = 2; hand 3 = -13; hand -1 = -13; hand MAX = -13; count 12 = 3",
        "begin 5 2 = 32; hand 4 = -1; hand 5 = -13; begin 1 2 = 2; hand 1 = -13; count 12 = 1");
  }

  private static void promise9Sort() {
    run("enlist 5 = 1; law 3 0 = 1; sort = 3; show 5 = 4; sort = 4; peg 0 -1 = 0; sort = 3; peg 0 1 = -1; sort = 0");
    run("begin 2 3 = 9; enlist 0 = 1; enlist 1 = 2; enlist 4 = 3; law 3 0 = 3; show 0 = 2; sort = 2; show 1 = 1; sort = 1",
        "show 2 = 0; sort = 0; show 4 = 2; tell 20 = 1; sort = 4; show 0 = 0; undo = 0; sort = 2");
    run("begin 1 1 = 1; sort = 3; peg 0 0 = -1; sort = 4; lies 1 = 0; tell 0 = 1; sort = 4");
  }

  private static void promise10Answer() {
    run("begin 4 6 = 1296; answer 7 252 = 4; answer 7 43 = 30; answer 43 7 = 30; answer 8 468 = 4; answer 7 7 = 40",
        "answer 0 1295 = 0; answer 216 36 = 22; answer 1296 0 = -1; answer 0 1296 = -1; answer -1 0 = -1; answer 0 -1 = -1",
        "answer MAX MIN = -1; answer 0 1 = 30; answer 8 44 = 30; answer 8 222 = 21; show 3 = 1; answer 7 252 = 4");
    run("begin 5 5 = 3125; answer 3124 3124 = 50; answer 0 3124 = 0; answer 2930 194 = 14; answer 2929 194 = 22");
    run("begin 4 8 = 4096; answer 4095 4095 = 40; answer 4088 511 = 22; answer 3584 7 = 22; answer 4095 511 = 30");
    run("begin 1 1 = 1; answer 0 0 = 10; begin 5 1 = 1; answer 0 0 = 50");
  }

  private static void promise11Reply() {
    run("reply 5 = 0; peg 0 1 = -1; reply 5 = 1; reply 16 = 10; peg 1 1 = -1; reply 5 = 11; reply 21 = 20; reply 0 = 0",
        "reply 64 = -1; reply -1 = -1; peg 2 0 = -1; reply 5 = 12; reply 20 = 30; reply 17 = 12");
  }

  private static void promise12Tell() {
    run("tell 4 = -1; tell 9 = -1; tell 13 = -1; tell 22 = -1; tell 31 = -1; tell 40 = -1; tell -1 = -1; tell -10 = -1",
        "tell MAX = -1; tell MIN = -1; tell 3 = -4; tell 12 = -4; tell 21 = -4; tell 30 = -4; count 5 = 0; count 4 = 64",
        repeated(0, 10, "tell 0 = 64"), "tell 0 = -2; tell 30 = -2; tell 40 = -1; count 5 = 10");
    run("show 6 = 1; tell 3 = 2; left 0 = 24; left 1 = 33; tell 30 = -4; count 4 = 2; count 5 = 1; falses 6 = 1; turn 0 0 = 3",
        "show 24 = 2; tell 30 = 1; left 0 = 24; count 4 = 1");
    run("begin 5 2 = 32; tell 5 = -4; tell 6 = -1; tell 14 = -4; tell 50 = -4; tell 41 = -4; tell 51 = -1; tell 42 = -1");
    run("begin 2 2 = 4; lies 1 = 0; show 0 = 1; tell 20 = 4; show 3 = 1; tell 20 = 2; show 1 = 0; tell 20 = -4",
        "count 5 = 2; quarrel -1 = 3; count 4 = 2");
    run("begin 2 3 = 9; peg 0 1 = -1; tell 10 = 3; left 0 = 3; left 1 = 4; left 2 = 5; peg 1 1 = -1; tell 11 = -4",
        "peg 0 -1 = 1; tell 1 = 2; left 0 = 3; left 1 = 5");
  }

  private static void promise13Undo() {
    run("undo = -1; tell 0 = 64; tell 0 = 64; undo = 1; undo = 0; undo = -1; show 0 = 1; tell 30 = 1; falses 1 = 1; undo = 0",
        "count 4 = 64; falses 1 = 0; left 63 = 63; tell 0 = 27; count 5 = 1; turn 0 0 = 0; turn 1 0 = -1; undo = 0");
  }

  private static void promise14Quarrel() {
    run("begin 2 2 = 4; tell 0 = 4; show 0 = 1; tell 10 = 2; quarrel -1 = -1; show 1 = 2; tell 20 = 1; show 3 = 0",
        "tell 20 = -4; quarrel -1 = 2; quarrel 0 = 1; quarrel 1 = 3; quarrel 2 = -1; quarrel -2 = -1; quarrel MIN = -1",
        "quarrel MAX = -1; undo = 2; quarrel 1 = 3; tell 10 = 2; quarrel 1 = 3; peg 0 -1 = 1; peg 1 -1 = 1; tell 1 = -4",
        "quarrel -1 = 1; quarrel 0 = 3; quarrel 1 = -1; begin 2 2 = 4; quarrel -1 = -1; quarrel 0 = -1");
    run("law 3 0 = 0; tell 0 = -4; quarrel -1 = 0; quarrel 0 = -1; law 0 0 = 64; quarrel -1 = 0; tell 1 = -4; quarrel -1 = 1");
    // {0, 3, 5} and {1, 2, 5} are both quarrels: the second has the lesser sum
    run("begin 2 8 = 64; enlist 1 = 1; enlist 2 = 2; enlist 25 = 3; enlist 26 = 4; enlist 36 = 5; law 3 0 = 5",
        "peg 0 0 = -1; tell 0 = 3; peg 0 1 = 0; tell 0 = 2; peg 0 2 = 1; tell 0 = 1; peg 0 3 = 2; tell 0 = 1",
        "peg 0 -1 = 3; tell 0 = 1; peg 0 4 = -1; tell 0 = -4; quarrel -1 = 3; quarrel 0 = 1; quarrel 1 = 2; quarrel 2 = 5");
    run("begin 1 2 = 2; lies 2 = 0; show 0 = 2; tell 0 = 2; tell 10 = 2; tell 0 = 2; tell 10 = 2; tell 0 = 1; tell 10 = -4",
        "quarrel -1 = 6; quarrel 5 = 5; quarrel 6 = -1");
    run("begin 1 2 = 2; lies 1 = 0; peg 0 -1 = -1; tell 0 = 2; tell 10 = 2; tell 10 = -4; quarrel -1 = 2; quarrel 0 = 1");
  }

  private static void promise15Turn() {
    run("begin 2 3 = 9; turn 0 0 = -1; show 1 = 1; tell 10 = 4; turn 0 0 = 10; turn 0 1 = 0; turn 0 2 = 1; turn 0 3 = -1",
        "turn 0 5 = -1; turn 0 6 = 0; turn 0 7 = -1; turn 0 -1 = -1; turn 0 MIN = -1; turn 0 MAX = -1; turn 1 0 = -1",
        "turn -1 0 = -1; peg 0 -1 = 0; tell 10 = 2; turn 1 0 = 10; turn 1 1 = -1; turn 1 2 = 1; turn 0 1 = 0; turn 1 6 = 0",
        "tell 30 = -1; turn 2 0 = -1; undo = 1; turn 1 0 = -1");
    run("begin 5 2 = 32; show 30 = 1; tell 50 = 1; turn 0 4 = 1; turn 0 5 = 0; turn 0 6 = 0; turn 0 7 = -1");
    run("begin 1 3 = 3; lies 1 = 0; show 0 = 1; tell 10 = 3; turn 0 6 = 2; show 1 = 1; tell 0 = 2; turn 0 6 = 1; turn 1 6 = 0");
  }

  private static void promise16Left() {
    run("left 0 = 0; left 63 = 63; left 64 = -1; left -1 = -1; left MAX = -1; left MIN = -1; enlist 40 = 1; enlist 2 = 2",
        "enlist 63 = 3; law 3 0 = 3; left 0 = 2; left 1 = 40; left 2 = 63; left 3 = -1; law 2 -1 = 0; left 0 = -1");
  }

  private static void promise17Falses() {
    run("begin 2 3 = 9; falses 0 = 0; law 1 0 = 6; show 1 = 1; tell 20 = 1; falses 1 = 0; falses 0 = 1; falses 8 = 1",
        "falses 9 = -1; falses -1 = -1; falses MIN = -1; tell 20 = 1; falses 0 = 2; show 0 = 0; tell 20 = -4; falses 0 = 2",
        "tell 10 = 1; falses 0 = 3; falses 2 = 2; falses 1 = 0; undo = 2; falses 0 = 2");
  }

  private static void promise18Part() {
    run("begin 2 3 = 9; part 0 0 = 0; part 0 1 = 9; part 1 0 = -1; show 1 = 1; count 6 = 5; part 0 0 = 0; part 0 1 = 1",
        "part 1 0 = 1; part 1 1 = 2; part 2 0 = 2; part 2 1 = 1; part 3 0 = 10; part 3 1 = 4; part 4 0 = 20; part 4 1 = 1",
        "part 5 0 = -1; part -1 0 = -1; part MAX 1 = -1; part 0 2 = -1; part 0 -1 = -1; tell 10 = 4; part 0 0 = 10",
        "part 0 1 = 4; part 1 0 = -1; peg 0 -1 = 0; part 0 0 = 0; part 0 1 = 2; part 1 0 = 10; part 1 1 = 2; part 2 1 = -1");
    run("law 3 0 = 0; show 0 = 0; part 0 0 = -1; part 0 1 = -1; count 6 = 0");
  }

  private static void promise19Among() {
    run("begin 2 2 = 4; among 0 = 2; among 1 = 3; among 2 = 0; among 3 = 0; among 4 = -1; among -1 = -1; enlist 1 = 1",
        "enlist 2 = 2; law 3 0 = 2; among 0 = 1; among 1 = 2; among 2 = 1; among 3 = 1; show 1 = 2; tell 2 = 1; among 0 = 1",
        "among 1 = 1; among 2 = 0; among 3 = 0; undo = 0; among 1 = 2; among 3 = 1");
    run("law 3 0 = 0; among 0 = 0; among 1 = 0; among 2 = -1; among 3 = -1; among 4 = -1; among MIN = -1");
    run("begin 4 8 = 4096; among 0 = -5; among 3 = -5; among 4 = -1; law 3 0 = 0; among 0 = 0; among 2 = -1");
    // 3125 codes and 64 of them left are just not too many; the four numbers are the plain court's
    run("begin 5 5 = 3125", repeated(0, 64, "enlist THIS = NEXT"), "law 3 0 = 64; among 0 = 11; among 1 = 12; among 2 = 133",
        "among 3 = 152; enlist 64 = 65; among 0 = -5; among 1 = -5; among 4 = -1");
  }

  private static void promise20Like() {
    run("begin 2 3 = 9; like 0 4 = 1; like 0 8 = 1; like 0 1 = 0; like 1 0 = 0; like 1 3 = 1; like 1 7 = 1; like 5 5 = 1",
        "like 9 0 = -1; like 0 9 = -1; like -1 0 = -1; like 0 MAX = -1; law 3 0 = 0; like 0 4 = 1; like 0 1 = 0",
        "enlist 0 = 1; enlist 1 = 2; count 4 = 2; like 0 4 = 0; like 0 0 = 1; like 5 5 = 1; like 5 7 = 0; like 8 8 = 1");
    run("begin 2 3 = 9; show 1 = 1; tell 1 = 2; like 5 6 = 1; like 1 1 = 1; like 1 3 = 0; like 2 7 = 1; like 0 4 = 1; like 0 8 = 0");
    run("begin 4 5 = 625; like 0 624 = 1; like 0 1 = 0; like 1 5 = 1; like 194 586 = 1; like 625 0 = -1; law 2 1 = 4; like 0 624 = 0",
        "like 1 125 = 1; like 1 2 = 0; like 2 3 = 1");
    run("begin 5 1 = 1; like 0 0 = -5; like 1 0 = -1; begin 5 5 = 3125; like 0 1 = -5; begin 1 6 = 6; like 0 1 = -5",
        "like 6 0 = -1; begin 4 6 = 1296; like 0 0 = -5; begin 1 5 = 5; like 0 4 = 1; begin 4 1 = 1; like 0 0 = 1");
  }

  private static void promise21Least() {
    run("begin 1 8 = 8; least 0 = 8; least 1 = 8; least 2 = -1; least -1 = -1; lies 1 = 0; least 0 = -6; least 2 = -1");
    run("least 0 = -5; lies 2 = 0; least 1 = -6; lies 0 = 2; law 3 0 = 0; least 0 = -5", repeated(0, 10, "enlist THIS = NEXT"),
        "least 1 = 3; enlist 10 = 11; least 0 = -5; least 1 = -5; least 3 = -1");
    run(FOUR_DOUBLES, "least 0 = 3; least 1 = 4; show 9 = 1; tell 20 = 1; least 0 = 1; least 1 = 1; undo = 0; least 0 = 3");
    // the same numbers are other codes after begin()
    String again = "enlist 0 = 1; enlist 9 = 2; enlist 18 = 3; enlist 27 = 4; law 3 0 = 4;";
    run(FOUR_DOUBLES, "least 0 = 3; begin 3 8 = 512", again, "least 0 = 2", FOUR_DOUBLES, "least 0 = 3; begin 2 6 = 36", again,
        "least 0 = 2; least 1 = 2");
    run("begin 4 6 = 1296; enlist 0 = 1; law 3 0 = 1; least 0 = 1; enlist 1295 = 2; least 0 = 2; least 1 = 2");
    run("begin 4 7 = 2401; enlist 0 = 1; law 3 0 = 1; least 0 = -5; best 1 0 0 = -5; tree 1 0 = -5; sum 0 0 = -5");
  }

  private static void promise22Sum() {
    run("begin 1 8 = 8; sum 0 0 = 36; sum 1 0 = 36; sum 0 8 = 36; sum 0 7 = -7; sum 0 20 = 36; sum 0 21 = -1; sum 0 -1 = -1",
        "sum 2 0 = -1; sum -1 0 = -1; sum 1 1 = -7; lies 1 = 0; sum 0 0 = -6; sum 2 0 = -1; sum 0 21 = -1");
    run(FOUR_DOUBLES, "sum 0 0 = 10; sum 0 3 = 10; sum 0 2 = -7; sum 0 1 = -7; sum 1 3 = -7; sum 1 4 = 10; sum 1 0 = 10",
        "show 0 = 1; tell 20 = 1; sum 0 0 = 1; sum 0 1 = 1; sum 1 1 = 1");
    run(TWO_CODES, "sum 0 0 = 3; sum 1 2 = 3; sum 0 1 = -7; law 0 0 = 64; sum 0 0 = -5; law 2 -1 = 0; sum 0 0 = -5");
  }

  private static void promise23Best() {
    run(TWO_CODES, "best 0 0 0 = 1; best 1 0 0 = 5; best 0 1 0 = 5; best 1 1 0 = 5; best 1 0 1 = -7; best 0 0 1 = 1",
        "best 1 0 2 = 5; best 2 0 0 = -1; best -1 0 0 = -1; best 0 2 0 = -1; best 1 -1 0 = -1; best 0 0 21 = -1",
        "best 0 0 -1 = -1; best 1 1 21 = -1; best 1 1 20 = 5; lies 2 = 0; best 0 0 0 = -6; best 0 0 21 = -1; lies 0 = 2",
        "law 0 0 = 64; best 0 0 0 = -5; best 1 1 0 = -5");
    run(FOUR_DOUBLES, "best 0 0 0 = 1; best 1 0 0 = 0; best 1 0 3 = 1; best 1 0 4 = 0; best 1 0 2 = -7; best 0 1 0 = 0",
        "best 1 1 3 = -7; best 1 1 4 = 0; show 18 = 1; tell 20 = 1; best 0 0 0 = 18; best 1 0 1 = 18");
    run("begin 1 3 = 3; show 1 = 1; tell 0 = 2; best 1 0 0 = 0; best 1 1 0 = 0; undo = 0; show 0 = 1; tell 0 = 2",
        "best 1 0 0 = 1; best 1 1 0 = 1; best 0 0 0 = 1; undo = 0; best 1 0 0 = 0");
  }

  private static void promise24Tree() {
    run(FOUR_DOUBLES, "tree 0 3 = 5; count 7 = 5; tree 0 2 = -7; count 7 = 5; node 0 0 = 1; tree 0 21 = -1; tree 2 0 = -1",
        "tree 0 -1 = -1; tree -1 3 = -1; count 7 = 5; tree 1 0 = 4; count 7 = 4; show 0 = 1; tell 20 = 1; count 7 = 4",
        "tree 0 0 = 1; node 0 0 = 0; undo = 0; count 7 = 1; lies 1 = 0; tree 0 0 = -6; tree 5 0 = -1; count 7 = 1",
        "lies 0 = 1; law 0 0 = 64; tree 0 0 = -5; law 3 0 = 4; tree 0 0 = 4; node 0 0 = 0");
  }

  private static void promise25Node() {
    run(FOUR_DOUBLES, "tree 0 3 = 5",
        "node 0 0 = 1; node 0 1 = -1; node 0 2 = -1; node 0 3 = 4; node 0 4 = 1",
        "node 1 0 = 18; node 1 1 = 0; node 1 2 = 0; node 1 3 = 2; node 1 4 = 2",
        "node 2 0 = 27; node 2 1 = 1; node 2 2 = 0; node 2 3 = 1; node 2 4 = 3",
        "node 3 0 = 0; node 3 1 = 0; node 3 2 = 10; node 3 3 = 2; node 3 4 = 2",
        "node 4 0 = 9; node 4 1 = 3; node 4 2 = 0; node 4 3 = 1; node 4 4 = 3",
        "node 5 0 = -1; node -1 0 = -1; node 0 5 = -1; node 0 -1 = -1; node MAX MIN = -1; tree 1 0 = 4; node 3 0 = 27",
        "node 3 1 = 2; node 3 4 = 4; node 2 3 = 2; node 4 0 = -1");
  }

  private static void promise26Plan() {
    run("plan 0 0 0 = -1; plan -2 0 0 = -1; plan -1 0 64 = -1; plan -1 0 -1 = -1; count 8 = 0; plan -1 99 0 = 0",
        "plan -1 0 0 = -1; plan 1 0 0 = -1; plan 0 40 0 = -1; plan 0 13 0 = -1; plan 0 -1 0 = -1; plan 0 21 0 = 1",
        "plan 1 30 63 = 2; plan 0 0 64 = -1; plan 0 0 -1 = -1; plan MAX 0 0 = -1; plan 0 MIN 0 = -1; count 8 = 3",
        repeated(3, 40, "plan 0 0 5 = THIS"), "plan 0 0 5 = -2; plan 40 0 5 = -1; plan 0 4 5 = -1; plan 0 0 64 = -1; count 8 = 40",
        "drop = 40; plan 0 0 0 = -1; plan -1 0 0 = 0");
  }

  private static void promise27Drop() {
    run("drop = 0; plan -1 0 5 = 0; plan 0 1 5 = 1; drop = 2; count 8 = 0; drop = 0; judge = -1; total = -1");
    run(FOUR_DOUBLES, "plan -1 0 0 = 0; plan 0 0 9 = 1; plan 0 0 9 = 2; plan 2 0 9 = 3; drop = 4; plan -1 0 0 = 0; judge = -20",
        "plan 0 0 9 = 1; plan 1 0 18 = 2; plan 2 0 27 = 3; judge = 4");
  }

  private static void promise28Judge() {
    run(FOUR_DOUBLES, "judge = -1; plan -1 0 0 = 0; judge = -20; plan 0 0 9 = 1; judge = -21; plan 1 0 18 = 2; judge = -22",
        "plan 2 0 27 = 3; judge = 4; show 0 = 1; tell 20 = 1; judge = -20; undo = 0; judge = 4; lies 1 = 0; judge = -6",
        "lies 0 = 1; law 2 -1 = 0; judge = -1; lies 2 = 0; judge = -1; lies 0 = 2; law 3 0 = 4; judge = 4",
        "plan 3 20 0 = 4; judge = -23");
    run(FOUR_DOUBLES, "plan -1 0 1 = 0; plan 0 10 0 = 1; plan 0 0 18 = 2; plan 1 0 9 = 3; judge = -22; plan 2 0 27 = 4",
        "judge = 3; plan 0 0 18 = 5; judge = -20");
    run(FOUR_DOUBLES, "plan -1 0 1 = 0; plan 0 10 0 = 1; plan 0 0 18 = 2; plan 1 0 9 = 3; plan 2 0 27 = 4; plan 4 10 0 = 5",
        "judge = -24");
    run("enlist 9 = 1; law 3 0 = 1; plan -1 0 9 = 0; judge = 1; plan 0 0 9 = 1; judge = -20; drop = 2; plan -1 0 8 = 0",
        "judge = -20; plan 0 20 9 = 1; judge = 2");
    // a guess to which all have one answer is no fault in a plan
    run(FOUR_DOUBLES, "plan -1 0 63 = 0; plan 0 0 0 = 1; plan 1 0 9 = 2; plan 2 0 18 = 3; plan 3 0 27 = 4; judge = 5; total = 14");
  }

  private static void promise29Total() {
    run("total = -1", FOUR_DOUBLES, "plan -1 0 0 = 0; total = -1; plan 0 0 9 = 1; plan 1 0 18 = 2; total = -1; plan 2 0 27 = 3",
        "total = 10; lies 1 = 0; total = -1; lies 0 = 1; law 0 0 = 64; total = -1; law 2 -1 = 0; total = -1");
    run(FOUR_DOUBLES, "plan -1 0 1 = 0; plan 0 10 0 = 1; plan 0 0 18 = 2; plan 1 0 9 = 3; plan 2 0 27 = 4; total = 10; total = 10");
    run("enlist 9 = 1; law 3 0 = 1; plan -1 0 9 = 0; total = 1; drop = 1; plan -1 0 8 = 0; plan 0 20 9 = 1; total = 2");
  }

  private static void promise30Rack() {
    run("rack 0 1 0 = 0; at 0 0 = STATE; rack 0 1 60 = 60; at 0 59 = 0; at 0 60 = STATE; rack 0 1 61 = -1; rack 0 0 5 = -1",
        "rack 0 4 5 = -1; rack 6 1 5 = -1; rack -1 1 5 = -1; rack 0 1 MAX = -1; count 12 = 0; rack 0 1 -1 = -14",
        "rack 0 4 -1 = -1; rack 6 1 -1 = -1; rack 5 2 MIN = -14; count 12 = 2; clear 5 = 0; put 0 0 7 = 0; rack 0 3 9 = 9",
        "at 0 0 = 0; at 0 9 = STATE; clear 0 = 3; rack 5 2 60 = 60; clear 5 = 2; keep 1 = 3; rack 1 1 2 = 2; at 1 0 = 0",
        "at 1 1 = 0; clear 1 = 1");
  }

  private static void promise31Keep() {
    run("keep 6 = -1; keep -1 = -1; keep 0 = 3; kept 0 0 = 3; kept 0 4 = -1; show 5 = 1; keep 0 = 1; kept 0 0 = 1; show 6 = 1",
        "kept 0 4 = 0; kept 0 5 = 1; kept 0 6 = 1; law 3 0 = 0; kept 0 0 = 1; keep 5 = 0; kept 5 6 = 2; kept 5 0 = 0",
        "rack 2 1 5 = 5; keep 2 = 0; clear 2 = 4");
  }

  private static void promise32Clear() {
    run("clear 0 = 0; clear 6 = -1; clear -1 = -1; clear MIN = -1; rack 0 1 1 = 1; rack 1 2 1 = 1; rack 2 3 0 = 0; keep 3 = 3",
        "clear 0 = 1; clear 1 = 2; clear 2 = 3; clear 3 = 4; clear 3 = 0; clear 0 = 0; put 0 0 1 = -11; kept 3 0 = -11");
  }

  private static void promise33Put() {
    run("rack 0 1 2 = 2; put 0 0 300 = 0; put 0 0 128 = 44; put 0 0 -129 = -128; put 0 0 -1 = 127; put 0 0 0 = -1; put 0 1 5 = 0",
        "at 0 0 = 0; rack 1 2 2 = 2; put 1 0 -1 = 0; put 1 0 65536 = 65535; put 1 0 65535 = 0; put 1 0 MIN = 65535; at 1 0 = 0",
        "rack 2 3 2 = 2; put 2 0 40000 = 0; put 2 0 65535 = -25536; put 2 0 -32769 = -1; put 2 0 1 = 32767; at 2 0 = 1",
        "put 6 0 1 = -1; put -1 0 1 = -1; count 12 = 0; put 3 0 1 = -11; put 3 99 1 = -11; keep 3 = 3; put 3 0 1 = -12",
        "put 3 -1 1 = -12; put 0 2 1 = -13; put 0 -1 1 = -13; put 0 MAX 1 = -13; put 0 MIN 1 = -13; count 12 = 8; at 0 1 = 5");
  }

  private static void promise34At() {
    run("at 6 0 = ARGUMENT; at -1 0 = ARGUMENT; at MIN MAX = ARGUMENT; at 0 0 = STATE; keep 0 = 3; at 0 0 = STATE",
        "rack 0 1 3 = 3; put 0 2 -7 = 0; at 0 2 = -7; at 0 3 = STATE; at 0 -1 = STATE; at 0 MAX = STATE; at 0 MIN = STATE",
        "count 12 = 0; rack 1 2 1 = 1; put 1 0 -7 = 0; at 1 0 = 65529");
  }

  private static void promise35Copy() {
    run("rack 0 1 5 = 5; put 0 0 1 = 0; put 0 1 2 = 0; put 0 2 3 = 0; put 0 3 4 = 0; put 0 4 5 = 0; copy 0 0 0 1 4 = 4",
        "at 0 0 = 1; at 0 1 = 1; at 0 2 = 2; at 0 3 = 3; at 0 4 = 4; copy 0 2 0 0 3 = 3; at 0 0 = 2; at 0 1 = 3; at 0 2 = 4",
        "at 0 3 = 3; at 0 4 = 4; rack 1 1 3 = 3; copy 0 1 1 0 3 = 3; at 1 0 = 3; at 1 1 = 4; at 1 2 = 3; copy 0 5 1 3 0 = 0",
        "copy 0 0 1 0 4 = -13; copy 0 6 1 0 0 = -13; copy 0 0 1 4 0 = -13; copy 0 3 1 0 3 = -13; copy 0 -1 1 0 1 = -13",
        "copy 0 0 1 -1 1 = -13; copy 0 0 1 0 -1 = -13; copy 0 MAX 1 0 1 = -13; copy 0 1 1 1 MAX = -13; copy 0 0 1 MAX MAX = -13",
        "copy 0 MIN 1 MIN MIN = -13; at 1 0 = 3; count 12 = 11");
    run("copy 6 0 0 0 1 = -1; copy 0 0 6 0 1 = -1; copy -1 0 0 0 1 = -1; copy 0 0 -1 0 1 = -1; count 12 = 0; rack 0 1 5 = 5",
        "copy 0 0 1 0 1 = -11; copy 1 0 0 0 1 = -11; copy 1 0 1 0 1 = -11; keep 2 = 3; copy 2 0 1 0 1 = -11",
        "copy 1 0 2 0 1 = -11; copy 0 0 2 0 1 = -12; copy 2 0 0 0 1 = -12; copy 2 0 2 0 0 = -12; rack 3 2 5 = 5",
        "copy 0 0 3 0 1 = -12; copy 3 0 0 9 9 = -12; rack 4 3 5 = 5; copy 4 0 3 0 1 = -12; copy 4 0 4 1 4 = 4; count 12 = 11");
  }

  private static void promise36Take() {
    run("rack 0 1 4 = 4; put 0 0 3 = 0; put 0 1 -1 = 0; put 0 2 2 = 0; put 0 3 1 = 0; take 0 0 = 3; hand 0 = 3; hand 1 = -1",
        "hand 2 = 2; put 0 1 0 = -1; take 0 0 = 1; take 0 1 = 1; hand 0 = 0; hand 1 = 2; hand 2 = 1; reply 9 = 30; take 0 2 = -13",
        "take 0 -1 = -13; take 0 MAX = -13; take 0 MIN = -13; count 12 = 4; put 0 3 4 = 1; take 0 1 = -16; hand 0 = 0",
        "hand 2 = 1; put 0 3 -2 = 4; take 0 1 = -16; count 12 = 4; take 6 0 = -1; take -1 0 = -1; take 1 0 = -11; keep 1 = 1",
        "take 1 0 = -12; count 12 = 6");
    run("rack 0 2 3 = 3; put 0 0 65535 = 0; put 0 1 3 = 0; take 0 0 = 3; hand 0 = -1; hand 1 = 3; hand 2 = 0; put 0 2 65534 = 0",
        "take 0 0 = -16; rack 1 3 3 = 3; put 1 0 -1 = 0; take 1 0 = 3; hand 0 = -1; put 1 0 65535 = -1; take 1 0 = 3",
        "put 1 0 255 = -1; take 1 0 = -16; rack 2 1 3 = 3; put 2 0 255 = 0; take 2 0 = 3; rack 2 1 2 = 2; take 2 0 = -13");
    run("enlist 5 = 1; law 3 0 = 1; rack 0 3 3 = 3; put 0 1 1 = 0; put 0 2 1 = 0; take 0 0 = 4; begin 2 2 = 4; take 0 1 = 1",
        "hand 1 = 1; hand 2 = -13; take 0 2 = -13");
  }

  private static void promise37Kept() {
    run("keep 0 = 3; kept 0 0 = 3; kept 0 1 = -3; kept 0 2 = 0; kept 0 3 = 3; kept 0 4 = -1; kept 0 6 = -1; kept 0 7 = -13",
        "kept 0 8 = -13; kept 0 9 = -1; kept 0 -1 = -1; kept 6 0 = -1; kept -1 0 = -1; kept 1 9 = -1; count 12 = 2",
        "kept 1 0 = -11; kept 1 8 = -11; rack 1 1 9 = 9; kept 1 0 = -12; kept 1 4 = -12; count 12 = 6",
        "peg 1 2 = -1; keep 0 = 3; kept 0 1 = -1; kept 0 5 = 2; show 6 = 1; keep 0 = 1; kept 0 1 = 13; kept 0 2 = 2",
        "enlist 6 = 1; law 3 0 = 1; show 5 = 0; keep 1 = 0; kept 1 0 = 0; kept 1 1 = 3; kept 1 2 = 1; show 6 = 4; keep 2 = 4",
        "kept 2 1 = 27; kept 2 2 = 7; enlist 5 = 2; sort = 2; keep 3 = 2; kept 3 1 = 26; kept 3 2 = 2; kept 2 0 = 4",
        "begin 5 2 = 32; kept 2 3 = 3; kept 2 5 = 1; kept 2 6 = 2; kept 2 7 = -13; keep 2 = 3; kept 2 1 = -5; kept 2 8 = -1",
        "kept 2 3 = 5; show 31 = 1; keep 2 = 1; kept 2 8 = 1; kept 2 1 = 15");
  }

  private static void promise38Toss() {
    run("toss 6 = -1; toss -1 = -1; toss 0 = -11; rack 0 2 3 = 3; toss 0 = -12; keep 0 = 3; toss 0 = -15; count 12 = 3",
        "peg 2 0 = -1; keep 0 = 3; toss 0 = 4; show 5 = 1; keep 0 = 1; toss 0 = 2; enlist 6 = 1; law 3 0 = 1; keep 0 = 0",
        "toss 0 = 1; show 6 = 4; keep 0 = 4; toss 0 = 5; enlist 5 = 2; keep 0 = 2; toss 0 = 3; toss 0 = 3; count 12 = 3");
  }

  private static void promise39Count() {
    run("count -1 = -1; count 13 = -1; count MAX = -1; count MIN = -1", FOUR_DOUBLES,
        "count 0 = 2; count 1 = 8; count 2 = 64; count 3 = 4; count 4 = 4; count 10 = 3; count 11 = 4; show 9 = 1; count 6 = 2",
        "tree 0 0 = 4; count 7 = 4; plan -1 0 0 = 0; count 8 = 1; law 2 3 = 4; count 10 = 2; count 11 = 4; lies 2 = 0",
        "count 9 = 2; tell 0 = 4; count 5 = 1; count 3 = 4; count 12 = 0");
    // refusals, each way once: 1 of rack, 3 of put, 3 of copy, 3 of take, 3 of kept, 3 of toss, 1 of peg, 1 of hand
    run("rack 0 1 -1 = -14; put 0 0 0 = -11; copy 0 0 0 0 0 = -11; take 0 0 = -11; kept 0 0 = -11; toss 0 = -11; count 12 = 6",
        "keep 0 = 3; put 0 0 0 = -12; copy 0 0 0 0 0 = -12; take 0 0 = -12; kept 0 8 = -13; toss 0 = -15; count 12 = 11",
        "rack 0 1 1 = 1; put 0 1 0 = -13; copy 0 1 0 1 1 = -13; take 0 0 = -13; kept 0 0 = -12; toss 0 = -12; count 12 = 16",
        "peg 3 0 = -13; hand 3 = -13; count 12 = 18; peg 0 9 = -16; put 0 0 9 = 0; rack 1 1 3 = 3; put 1 0 9 = 0",
        "take 1 0 = -16; at 2 0 = STATE; at 9 0 = ARGUMENT; show 99 = -1; tell 99 = -1; among 9 = -1; count 12 = 18",
        "begin 1 4 = 4; take 1 0 = -16; tell 10 = -4; at 2 0 = STATE; at 9 0 = ARGUMENT; count 12 = 0; toss 1 = -12; count 12 = 1");
  }

  private static void all() {
    Runnable[] promises = {
      PromiseTests::promise1NewObject, PromiseTests::promise2Begin, PromiseTests::promise3Law,
      PromiseTests::promise4Enlist, PromiseTests::promise5Lies, PromiseTests::promise6Peg, PromiseTests::promise7Show,
      PromiseTests::promise8Hand, PromiseTests::promise9Sort, PromiseTests::promise10Answer,
      PromiseTests::promise11Reply, PromiseTests::promise12Tell, PromiseTests::promise13Undo,
      PromiseTests::promise14Quarrel, PromiseTests::promise15Turn, PromiseTests::promise16Left,
      PromiseTests::promise17Falses, PromiseTests::promise18Part, PromiseTests::promise19Among,
      PromiseTests::promise20Like, PromiseTests::promise21Least, PromiseTests::promise22Sum,
      PromiseTests::promise23Best, PromiseTests::promise24Tree, PromiseTests::promise25Node,
      PromiseTests::promise26Plan, PromiseTests::promise27Drop, PromiseTests::promise28Judge,
      PromiseTests::promise29Total, PromiseTests::promise30Rack, PromiseTests::promise31Keep,
      PromiseTests::promise32Clear, PromiseTests::promise33Put, PromiseTests::promise34At, PromiseTests::promise35Copy,
      PromiseTests::promise36Take, PromiseTests::promise37Kept, PromiseTests::promise38Toss,
      PromiseTests::promise39Count,
    };
    for (Runnable one : promises) {
      promise++;
      one.run();
    }
  }

  public static void main(String[] args) {
    all();
    System.out.println(promise + " promises, " + asked + " answers asked for, " + wrong + " not as due");
    if (wrong != 0) System.exit(1);
  }
}
