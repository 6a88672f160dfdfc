import java.util.Arrays;
import java.util.Random;

/** Runs of calls chosen by fixed seeds, on PegCourt and on PlainCourt: every answer must be the same. */
public final class AgainstPlainCourt {
  private static final int CALLS = 120;
  private static final int[] EDGES = {-1, 0, 1, 2, 3, 10, 60, Integer.MAX_VALUE, Integer.MIN_VALUE};

  private final Random random;
  private final PegCourt court = new PegCourt();
  private final PlainCourt plain = new PlainCourt();
  private final StringBuilder told = new StringBuilder();
  private final int mostCodes;
  private boolean wrong = false;
  private int secret = 0;

  private AgainstPlainCourt(long seed, int mostCodes) {
    random = new Random(seed);
    this.mostCodes = mostCodes;
  }

  private int call(String name, int... a) {
    int due = plain.call(name, a);
    int got;
    String failure = "";
    try {
      got = CourtCalls.call(court, name, a);
    } catch (RuntimeException e) {
      got = Integer.MIN_VALUE;
      failure = " (" + e + ")";
    }
    told.append("  ").append(name).append(Arrays.toString(a)).append(" = ").append(got).append('\n');
    if (got != due && !wrong) {
      wrong = true;
      System.out.println(told + "  answered " + got + failure + ", due is " + due);
    }
    return due;
  }

  private int any(int n) {
    return random.nextInt(n);
  }

  /** What count() tells. */
  private int of(int what) {
    return plain.call("count", what);
  }

  /** Mostly a number below n, now and then one that is not. */
  private int near(int n) {
    int w = any(20);
    if (w == 0) return EDGES[any(EDGES.length)];
    if (w == 1) return n;
    return n <= 0 ? 0 : any(n);
  }

  private int code() {
    int left = of(4);
    if (left > 0 && any(3) == 0) return plain.call("left", any(left));
    return near(of(2));
  }

  private int answer() {
    if (any(8) == 0) return near(10 * of(0) + 3);
    if (any(8) == 0) return 10 * any(of(0) + 1) + any(3);
    return plain.call("reply", secret);
  }

  private void begin() {
    for (int tries = 0; tries < 50; tries++) {
      int p = 1 + any(5), c = 1 + any(8);
      if (Math.pow(c, p) <= mostCodes) {
        call("begin", p, c);
        break;
      }
    }
    secret = any(of(2));
  }

  /** A list with few codes, so that trees can be asked for. */
  private void enlistSome() {
    int n = 1 + any(11);
    for (int i = 0; i < n; i++) call("enlist", any(of(2)));
    if (any(4) == 0) for (int i = 0; i < of(1); i++) call("enlist", i * (of(2) - 1) / Math.max(1, of(1) - 1));
    call("law", 3, 0);
    int left = of(4);
    if (left > 0) secret = plain.call("left", any(left));
  }

  private void setUp() {
    switch (any(6)) {
      case 0: begin(); break;
      case 1: call("law", near(4), near(4 * of(0))); break;
      case 2: call("lies", near(3)); break;
      case 3: call("enlist", code()); break;
      case 4: if (any(3) == 0) call("begin", near(6), near(9)); break;
      default: enlistSome(); break;
    }
    if (secret >= of(2)) secret = 0;
  }

  private void playOn() {
    switch (any(12)) {
      case 0: call("peg", near(of(0)), any(of(1) + 2) - 1); break;
      case 1: case 2: call("show", code()); break;
      case 3: case 4: case 5: call("tell", answer()); break;
      case 6: if (any(2) == 0) call("undo"); break;
      case 7: call("quarrel", any(5) - 1); break;
      case 8: call("turn", near(of(5)), near(8)); break;
      case 9: call("part", near(of(6)), near(2)); break;
      case 10: call("left", near(of(4))); break;
      default: call("sort"); break;
    }
  }

  private void look() {
    switch (any(8)) {
      case 0: call("hand", near(of(0))); break;
      case 1: call("answer", code(), code()); break;
      case 2: call("reply", code()); break;
      case 3: call("falses", code()); break;
      case 4: if ((long) of(2) * of(4) <= 20000 || any(6) == 0) call("among", near(4)); break;
      case 5: if (of(2) <= 256) call("like", code(), code()); break;
      default: call("count", near(13)); break;
    }
  }

  private void trees() {
    switch (any(7)) {
      case 0: call("least", near(2)); break;
      case 1: call("sum", near(2), near(any(2) == 0 ? 21 : 5)); break;
      case 2: call("best", near(2), near(2), near(any(2) == 0 ? 21 : 5)); break;
      case 3: call("tree", near(2), near(any(2) == 0 ? 21 : 5)); break;
      case 4: planTheTree(); break;
      default: call("node", near(of(7)), near(5)); break;
    }
  }

  private void planTheTree() {
    call("drop");
    int nodes = of(7);
    for (int k = 0; k < nodes; k++) {
      if (any(30) != 0) call("plan", plain.call("node", k, 1), plain.call("node", k, 2), plain.call("node", k, 0));
    }
    call("judge");
    call("total");
  }

  private void plans() {
    switch (any(6)) {
      case 0: if (any(4) == 0) call("drop"); break;
      case 1: call("judge"); break;
      case 2: call("total"); break;
      default: call("plan", any(6) == 0 ? -1 : near(of(8)), answer(), code()); break;
    }
    if (of(8) == 0) call("plan", -1, answer(), code());
  }

  private void shelves() {
    int d = near(6), e = near(6);
    switch (any(12)) {
      case 0: case 1: call("rack", d, 1 + near(3), near(any(2) == 0 ? 61 : 8)); break;
      case 2: call("keep", d); break;
      case 3: if (any(3) == 0) call("clear", d); break;
      case 4: case 5: call("put", d, near(8), any(3) == 0 ? random.nextInt() : any(of(1) + 1) - 1); break;
      case 6: call("at", d, near(8)); break;
      case 7: call("copy", d, near(5), any(2) == 0 ? d : e, near(5), near(5)); break;
      case 8: call("take", d, near(4)); break;
      case 9: case 10: call("kept", d, near(9)); break;
      default: call("toss", d); break;
    }
  }

  /** Many weak turns, with lies among them, so that quarrels are large. */
  private void quarrels() {
    for (int i = 0; i < of(0); i++) call("peg", i, any(3) == 0 ? -1 : any(of(1)));
    int got = call("tell", any(7) == 0 ? answer() : plain.call("reply", secret));
    if (got == -4) for (int i = -1; i < 11; i++) call("quarrel", i);
    if (got == -2) while (of(5) > 3) call("undo");
  }

  private boolean run() {
    begin();
    int focus = any(5);
    if (focus == 0) call("lies", any(3));
    if (focus == 1) enlistSome();
    if (focus == 2) for (int d = 0; d < 5; d++) call("rack", d, 1 + any(3), 3 + any(6));
    for (int i = 0; i < CALLS && !wrong; i++) {
      if (any(2) == 0 && focus < 3) {
        if (focus == 0) quarrels();
        if (focus == 1) trees();
        if (focus == 2) shelves();
        continue;
      }
      switch (any(16)) {
        case 0: setUp(); break;
        case 1: case 2: case 3: case 4: case 5: playOn(); break;
        case 6: case 7: look(); break;
        case 8: case 9: case 10: trees(); break;
        case 11: case 12: plans(); break;
        default: shelves(); break;
      }
    }
    for (int what = 0; what <= 12 && !wrong; what++) call("count", what);
    return !wrong;
  }

  public static void main(String[] args) {
    int runs = args.length > 0 ? Integer.parseInt(args[0]) : 1500;
    long first = args.length > 1 ? Long.parseLong(args[1]) : 1;
    int bad = 0;
    for (int i = 0; i < runs && bad < 3; i++) {
      int most = i % 10 == 0 ? 1296 : i % 10 < 4 ? 256 : 81;
      if (!new AgainstPlainCourt(first + i, most).run()) {
        bad++;
        System.out.println("seed " + (first + i) + ", at most " + most + " codes");
      }
    }
    System.out.println(bad == 0 ? "all answers are the plain court's" : bad + " runs differ");
    if (bad != 0) System.exit(1);
  }
}
