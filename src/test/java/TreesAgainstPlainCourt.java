import java.util.Random;
import java.util.TreeSet;

/** Trees for up to ten codes, ordinary ones and such as no guess tells apart well: as the plain court finds them. */
public final class TreesAgainstPlainCourt {
  private static final int[][] SIZES = {{2, 8}, {3, 8}, {4, 6}, {5, 4}, {3, 5}, {2, 6}, {4, 3}};
  /** Places, colours and a list whose trees go wrong if guesses that divide it differently are taken for one. */
  private static final int[][] TELLING = {
    {5, 3, 74, 96, 106, 121, 122, 143, 146, 173, 179, 193},
    {4, 6, 248, 275, 534, 764, 834, 1005, 1023, 1034, 1110, 1134},
  };
  private static int wrong = 0;

  private TreesAgainstPlainCourt() { }

  private static TreeSet<Integer> chosen(Random random, int places, int colours, int codes) {
    TreeSet<Integer> some = new TreeSet<>();
    int all = 2 + random.nextInt(9), ones = 0;
    for (int i = 0; i < places; i++) ones = ones * colours + 1;
    int kind = random.nextInt(4), start = random.nextInt(codes);
    for (int i = 0; i < 40 && some.size() < Math.min(all, codes); i++) {
      if (kind == 0 || i > 25) some.add(random.nextInt(codes));
      if (kind == 1) some.add(random.nextInt(colours) * ones);
      if (kind == 2) some.add((start + i) % codes);
      if (kind == 3) some.add(random.nextInt(colours) * ones + (random.nextInt(3) == 0 ? random.nextInt(colours) : 0));
      some.removeIf(code -> code >= codes);
    }
    return some;
  }

  private static void compare(PegCourt court, PlainCourt plain, String told, String name, int... a) {
    int due = plain.call(name, a), got = CourtCalls.call(court, name, a);
    if (got != due) {
      wrong++;
      System.out.println(told + ": " + name + java.util.Arrays.toString(a) + " answered " + got + ", due is " + due);
    }
  }

  /** A new court for each pool and depth: an object is used for at most 512 calls. */
  private static PegCourt court(int places, int colours, TreeSet<Integer> some) {
    PegCourt court = new PegCourt();
    court.begin(places, colours);
    for (int code : some) court.enlist(code);
    court.law(3, 0);
    return court;
  }

  private static void compareTrees(PegCourt court, PlainCourt plain, String told, int pool, int depth) {
    compare(court, plain, told, "count", 4);
    compare(court, plain, told, "sum", pool, depth);
    compare(court, plain, told, "best", 1, pool, depth);
    compare(court, plain, told, "tree", pool, depth);
    for (int k = 0; k <= plain.call("count", 7); k++) {
      for (int what = 0; what <= 4; what++) compare(court, plain, told, "node", k, what);
    }
    compare(court, plain, told, "least", pool);
    compare(court, plain, told, "best", 0, pool, depth);
  }

  private static void compareAll(int places, int colours, TreeSet<Integer> some) {
    PlainCourt plain = new PlainCourt();
    int codes = plain.call("begin", places, colours);
    for (int code : some) plain.call("enlist", code);
    plain.call("law", 3, 0);
    String told = "begin(" + places + ", " + colours + "), list " + some;
    for (int depth = codes > 300 ? 4 : 11; depth >= 0; depth--) {
      for (int pool = 0; pool <= 1; pool++) {
        plain.call("tree", 0, 0);
        PegCourt court = court(places, colours, some);
        court.tree(0, 0);
        compareTrees(court, plain, told, pool, depth);
      }
    }
  }

  public static void main(String[] args) {
    int runs = args.length > 0 ? Integer.parseInt(args[0]) : 140;
    Random random = new Random(args.length > 1 ? Long.parseLong(args[1]) : 7);
    for (int[] row : TELLING) {
      TreeSet<Integer> some = new TreeSet<>();
      for (int i = 2; i < row.length; i++) some.add(row[i]);
      compareAll(row[0], row[1], some);
    }
    for (int i = 0; i < runs && wrong < 10; i++) {
      int places = SIZES[i % SIZES.length][0], colours = SIZES[i % SIZES.length][1];
      compareAll(places, colours, chosen(random, places, colours, (int) Math.pow(colours, places)));
    }
    System.out.println(wrong == 0 ? "all trees are the plain court's" : wrong + " answers differ");
    if (wrong != 0) System.exit(1);
  }
}
