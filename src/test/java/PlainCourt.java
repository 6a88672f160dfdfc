import java.util.ArrayList;
import java.util.Arrays;
import java.util.HashMap;
import java.util.List;
import java.util.Map;
import java.util.TreeMap;
import java.util.TreeSet;

/**
 * The document once more, word by word and without any thought of speed, to compare PegCourt with. It shares no code
 * with PegCourt: codes are rows of colours, what is left is found anew for each call, trees are looked for among all
 * guesses.
 */
final class PlainCourt {
  static final int ARGUMENT = 1_000_001, STATE = 1_000_002;
  private static final int NONE = -1, FULL = -2, STARTED = -3, LIE = -4, BIG = -5, KIND = -6, NO_TREE = -7;
  private static final int NOTHING = -11, CAST = -12, PLACE = -13, SIZE = -14, THROWN = -15, COLOUR = -16;

  private record Turn(int[] guess, int answer) { }
  private record Kept(int sort, int[] pegs) { }
  private record Planned(int parent, int answer, int guess) { }
  private record Node(int guess, int from, int answer, int size, int level) { }

  private int places, colours, law, told, lies, refusals;
  private final TreeSet<Integer> list = new TreeSet<>();
  private int[] hand;
  private final List<Turn> turns = new ArrayList<>();
  private List<Integer> quarrel;
  private final List<Node> tree = new ArrayList<>();
  private final List<Planned> plan = new ArrayList<>();
  private final Object[] shelves = new Object[6];
  private final Map<List<Integer>, Integer> sums = new HashMap<>();
  private final Map<List<Integer>, Integer> depths = new HashMap<>();

  PlainCourt() {
    start(3, 4);
  }

  private void start(int p, int c) {
    places = p;
    colours = c;
    law = 0;
    lies = 0;
    refusals = 0;
    list.clear();
    hand = new int[p];
    Arrays.fill(hand, -1);
    turns.clear();
    quarrel = null;
    tree.clear();
    plan.clear();
    sums.clear();
    depths.clear();
  }

  private int codes() {
    return (int) Math.pow(colours, places);
  }

  private boolean isCode(int code) {
    return code >= 0 && code < codes();
  }

  private int[] row(int code) {
    int[] row = new int[places];
    for (int i = places - 1; i >= 0; i--) {
      row[i] = code % colours;
      code /= colours;
    }
    return row;
  }

  private int number(int[] row) {
    int number = 0;
    for (int colour : row) number = number * colours + colour;
    return number;
  }

  private int answerOf(int[] guess, int[] code) {
    int blacks = 0, alike = 0;
    for (int i = 0; i < places; i++) if (guess[i] == code[i]) blacks++;
    for (int colour = 0; colour < colours; colour++) {
      int a = 0, b = 0;
      for (int i = 0; i < places; i++) {
        if (guess[i] == colour) a++;
        if (code[i] == colour) b++;
      }
      alike += Math.min(a, b);
    }
    return 10 * blacks + (alike - blacks);
  }

  private boolean tellable(int answer) {
    for (int b = 0; b <= places; b++) {
      for (int w = 0; w <= 9 && b + w <= places; w++) if (10 * b + w == answer) return true;
    }
    return false;
  }

  private boolean allowed(int code) {
    int[] row = row(code);
    if (law == 1) return Arrays.stream(row).distinct().count() == places;
    if (law == 2) return Arrays.stream(row).sum() == told;
    if (law == 3) return list.contains(code);
    return true;
  }

  private int falses(int code, List<Turn> some) {
    int n = 0;
    for (Turn t : some) if (answerOf(t.guess, row(code)) != t.answer) n++;
    return n;
  }

  private List<Integer> left() {
    List<Integer> left = new ArrayList<>();
    for (int code = 0; code < codes(); code++) if (allowed(code) && falses(code, turns) <= lies) left.add(code);
    return left;
  }

  private int allowedCount() {
    int n = 0;
    for (int code = 0; code < codes(); code++) if (allowed(code)) n++;
    return n;
  }

  private List<Integer> leastQuarrel(List<Turn> all) {
    int best = -1;
    for (int set = 0; set < 1 << all.size(); set++) {
      List<Turn> some = new ArrayList<>();
      for (int t = 0; t < all.size(); t++) if ((set >> t & 1) == 1) some.add(all.get(t));
      boolean quarrels = true;
      for (int code = 0; code < codes() && quarrels; code++) {
        if (allowed(code) && falses(code, some) <= lies) quarrels = false;
      }
      if (quarrels && (best < 0 || Integer.bitCount(set) < Integer.bitCount(best))) best = set;
    }
    List<Integer> found = new ArrayList<>();
    for (int t = 0; t < all.size(); t++) if ((best >> t & 1) == 1) found.add(t);
    return found;
  }

  private TreeMap<Integer, List<Integer>> parts(int[] guess, List<Integer> some) {
    TreeMap<Integer, List<Integer>> parts = new TreeMap<>();
    for (int code : some) parts.computeIfAbsent(answerOf(guess, row(code)), a -> new ArrayList<>()).add(code);
    return parts;
  }

  private int sortOfHand() {
    for (int peg : hand) if (peg < 0) return 3;
    List<Integer> left = left();
    if (!left.contains(number(hand))) return 0;
    if (left.size() == 1) return 4;
    return parts(hand, left).size() == left.size() ? 2 : 1;
  }

  private int refuse(int why) {
    refusals++;
    return why;
  }

  int call(String name, int... a) {
    switch (name) {
      case "begin": return begin(a[0], a[1]);
      case "law": return setLaw(a[0], a[1]);
      case "enlist": return enlist(a[0]);
      case "lies": return setLies(a[0]);
      case "peg": return peg(a[0], a[1]);
      case "show": return show(a[0]);
      case "hand": return a[0] < 0 || a[0] >= places ? refuse(PLACE) : hand[a[0]];
      case "sort": return sortOfHand();
      case "answer": return isCode(a[0]) && isCode(a[1]) ? answerOf(row(a[0]), row(a[1])) : NONE;
      case "reply": return isCode(a[0]) ? answerOf(hand, row(a[0])) : NONE;
      case "tell": return tell(a[0]);
      case "undo": return undo();
      case "quarrel": return quarrel(a[0]);
      case "turn": return turn(a[0], a[1]);
      case "left": return a[0] >= 0 && a[0] < left().size() ? left().get(a[0]) : NONE;
      case "falses": return isCode(a[0]) ? falses(a[0], turns) : NONE;
      case "part": return part(a[0], a[1]);
      case "among": return among(a[0]);
      case "like": return like(a[0], a[1]);
      case "least": return least(a[0]);
      case "sum": return sum(a[0], a[1]);
      case "best": return best(a[0], a[1], a[2]);
      case "tree": return growTree(a[0], a[1]);
      case "node": return node(a[0], a[1]);
      case "plan": return addToPlan(a[0], a[1], a[2]);
      case "drop": { int n = plan.size(); plan.clear(); return n; }
      case "judge": return judge();
      case "total": return total();
      case "rack": return rack(a[0], a[1], a[2]);
      case "keep": return keep(a[0]);
      case "clear": return clear(a[0]);
      case "put": return put(a[0], a[1], a[2]);
      case "at": return at(a[0], a[1]);
      case "copy": return copy(a[0], a[1], a[2], a[3], a[4]);
      case "take": return take(a[0], a[1]);
      case "kept": return kept(a[0], a[1]);
      case "toss": return toss(a[0]);
      case "count": return count(a[0]);
      default: throw new AssertionError(name);
    }
  }

  private int begin(int p, int c) {
    if (p < 1 || p > 5 || c < 1 || c > 8) return NONE;
    if (Math.pow(c, p) > 4096) return BIG;
    start(p, c);
    return codes();
  }

  private int setLaw(int l, int t) {
    if (l < 0 || l > 3) return NONE;
    if (!turns.isEmpty()) return STARTED;
    law = l;
    told = t;
    return allowedCount();
  }

  private int enlist(int code) {
    if (!isCode(code)) return NONE;
    if (!turns.isEmpty()) return STARTED;
    if (!list.contains(code) && list.size() == 300) return FULL;
    list.add(code);
    return list.size();
  }

  private int setLies(int n) {
    if (n < 0 || n > 2) return NONE;
    if (!turns.isEmpty()) return STARTED;
    int before = lies;
    lies = n;
    return before;
  }

  private int peg(int i, int colour) {
    if (i < 0 || i >= places) return refuse(PLACE);
    if (colour < -1 || colour >= colours) return COLOUR;
    int before = hand[i];
    hand[i] = colour;
    return before;
  }

  private int show(int code) {
    if (!isCode(code)) return NONE;
    hand = row(code);
    return sortOfHand();
  }

  private int tell(int answer) {
    if (!tellable(answer)) return NONE;
    if (turns.size() == 10) return FULL;
    turns.add(new Turn(hand.clone(), answer));
    int n = left().size();
    if (n > 0) return n;
    quarrel = leastQuarrel(turns);
    turns.remove(turns.size() - 1);
    return LIE;
  }

  private int undo() {
    if (turns.isEmpty()) return NONE;
    turns.remove(turns.size() - 1);
    return turns.size();
  }

  private int quarrel(int i) {
    if (quarrel == null || i < -1 || i >= quarrel.size()) return NONE;
    return i == -1 ? quarrel.size() : quarrel.get(i);
  }

  private int turn(int t, int what) {
    if (t < 0 || t >= turns.size()) return NONE;
    Turn turn = turns.get(t);
    if (what == 0) return turn.answer;
    if (what >= 1 && what <= places) return turn.guess[what - 1];
    if (what != 6) return NONE;
    int n = 0;
    for (int code : left()) if (answerOf(turn.guess, row(code)) != turn.answer) n++;
    return n;
  }

  private int part(int i, int what) {
    TreeMap<Integer, List<Integer>> parts = parts(hand, left());
    if (i < 0 || i >= parts.size() || what < 0 || what > 1) return NONE;
    int answer = new ArrayList<>(parts.keySet()).get(i);
    return what == 0 ? answer : parts.get(answer).size();
  }

  private int among(int what) {
    if (what < 0 || what > 3) return NONE;
    List<Integer> left = left();
    if (left.isEmpty()) return what < 2 ? 0 : NONE;
    if ((long) codes() * left.size() > 200000) return BIG;
    int least = Integer.MAX_VALUE, leastCode = -1, most = -1, mostCode = -1;
    for (int guess = 0; guess < codes(); guess++) {
      TreeMap<Integer, List<Integer>> parts = parts(row(guess), left);
      int greatest = 0;
      for (List<Integer> part : parts.values()) greatest = Math.max(greatest, part.size());
      if (greatest < least) { least = greatest; leastCode = guess; }
      if (parts.size() > most) { most = parts.size(); mostCode = guess; }
    }
    return new int[] {least, most, leastCode, mostCode}[what];
  }

  private static void orders(int n, List<Integer> start, List<List<Integer>> all) {
    if (start.size() == n) all.add(new ArrayList<>(start));
    for (int i = 0; i < n; i++) {
      if (!start.contains(i)) {
        start.add(i);
        orders(n, start, all);
        start.remove(start.size() - 1);
      }
    }
  }

  private int turned(int code, List<Integer> placeTo, List<Integer> colourTo) {
    int[] row = row(code), made = new int[places];
    for (int i = 0; i < places; i++) made[placeTo.get(i)] = colourTo.get(row[i]);
    return number(made);
  }

  private int like(int a, int b) {
    if (!isCode(a) || !isCode(b)) return NONE;
    if (places > 4 || colours > 5) return BIG;
    List<List<Integer>> placeOrders = new ArrayList<>(), colourOrders = new ArrayList<>();
    orders(places, new ArrayList<>(), placeOrders);
    orders(colours, new ArrayList<>(), colourOrders);
    TreeSet<Integer> left = new TreeSet<>(left());
    for (List<Integer> p : placeOrders) {
      for (List<Integer> c : colourOrders) {
        if (turned(a, p, c) != b) continue;
        TreeSet<Integer> made = new TreeSet<>();
        for (int code : left) made.add(turned(code, p, c));
        if (made.equals(left)) return 1;
      }
    }
    return 0;
  }

  private int whyNoTree() {
    if (lies != 0) return KIND;
    int n = left().size();
    return n == 0 || n > 10 || codes() > 1296 ? BIG : 0;
  }

  private List<Integer> guesses(int pool, List<Integer> some) {
    if (some.size() == 1 || pool == 1) return some;
    List<Integer> all = new ArrayList<>();
    for (int code = 0; code < codes(); code++) all.add(code);
    return all;
  }

  /** The codes for which trees must stand behind a guess, by answers; null if it may not be guessed. */
  private TreeMap<Integer, List<Integer>> behind(int guess, List<Integer> some) {
    TreeMap<Integer, List<Integer>> parts = parts(row(guess), some);
    if (some.size() > 1 && parts.size() == 1) return null;
    parts.remove(10 * places);
    return parts;
  }

  private static List<Integer> key(int pool, int depth, List<Integer> some) {
    List<Integer> key = new ArrayList<>(some);
    key.add(-1 - pool);
    key.add(depth);
    return key;
  }

  /** Of a tree that makes this guess first; -1 if there is none. */
  private int depthBehind(int pool, int guess, List<Integer> some) {
    TreeMap<Integer, List<Integer>> parts = behind(guess, some);
    if (parts == null) return -1;
    int depth = 1;
    for (List<Integer> part : parts.values()) depth = Math.max(depth, 1 + leastDepth(pool, part));
    return depth;
  }

  private int leastDepth(int pool, List<Integer> some) {
    List<Integer> key = key(pool, 0, some);
    if (depths.containsKey(key)) return depths.get(key);
    int least = Integer.MAX_VALUE;
    for (int guess : guesses(pool, some)) {
      int depth = depthBehind(pool, guess, some);
      if (depth > 0) least = Math.min(least, depth);
    }
    depths.put(key, least);
    return least;
  }

  private int sumBehind(int pool, int depth, int guess, List<Integer> some) {
    TreeMap<Integer, List<Integer>> parts = behind(guess, some);
    if (parts == null || depth == 1 && !parts.isEmpty()) return -1;
    int sum = some.size();
    for (List<Integer> part : parts.values()) {
      int there = leastSum(pool, depth == 0 ? 0 : depth - 1, part);
      if (there < 0) return -1;
      sum += there;
    }
    return sum;
  }

  private int leastSum(int pool, int depth, List<Integer> some) {
    List<Integer> key = key(pool, depth, some);
    if (sums.containsKey(key)) return sums.get(key);
    int least = -1;
    for (int guess : guesses(pool, some)) {
      int sum = sumBehind(pool, depth, guess, some);
      if (sum > 0 && (least < 0 || sum < least)) least = sum;
    }
    sums.put(key, least);
    return least;
  }

  private int firstOfLeastSum(int pool, int depth, List<Integer> some) {
    int least = leastSum(pool, depth, some);
    for (int guess : guesses(pool, some)) if (sumBehind(pool, depth, guess, some) == least) return guess;
    throw new AssertionError();
  }

  private int least(int pool) {
    if (pool < 0 || pool > 1) return NONE;
    int why = whyNoTree();
    return why != 0 ? why : leastDepth(pool, left());
  }

  private int sum(int pool, int depth) {
    if (pool < 0 || pool > 1 || depth < 0 || depth > 20) return NONE;
    int why = whyNoTree();
    if (why != 0) return why;
    int least = leastSum(pool, depth, left());
    return least < 0 ? NO_TREE : least;
  }

  private int best(int how, int pool, int depth) {
    if (how < 0 || how > 1) return NONE;
    int sum = sum(pool, depth);
    if (how == 1) return sum < 0 ? sum : firstOfLeastSum(pool, depth, left());
    if (sum < 0 && sum != NO_TREE) return sum;
    int least = leastDepth(pool, left());
    for (int guess : guesses(pool, left())) if (depthBehind(pool, guess, left()) == least) return guess;
    throw new AssertionError();
  }

  private void grow(int pool, int depth, List<Integer> some, int from, int answer) {
    int guess = firstOfLeastSum(pool, depth, some);
    int here = tree.size();
    tree.add(new Node(guess, from, answer, some.size(), from < 0 ? 1 : tree.get(from).level + 1));
    for (Map.Entry<Integer, List<Integer>> part : behind(guess, some).entrySet()) {
      grow(pool, depth == 0 ? 0 : depth - 1, part.getValue(), here, part.getKey());
    }
  }

  private int growTree(int pool, int depth) {
    int sum = sum(pool, depth);
    if (sum < 0) return sum;
    tree.clear();
    grow(pool, depth, left(), -1, -1);
    return tree.size();
  }

  private int node(int k, int what) {
    if (k < 0 || k >= tree.size() || what < 0 || what > 4) return NONE;
    Node n = tree.get(k);
    return new int[] {n.guess, n.from, n.answer, n.size, n.level}[what];
  }

  private int addToPlan(int parent, int answer, int guess) {
    if (plan.isEmpty() && parent != -1) return NONE;
    if (!plan.isEmpty() && (parent < 0 || parent >= plan.size() || !tellable(answer))) return NONE;
    if (!isCode(guess)) return NONE;
    if (plan.size() == 40) return FULL;
    plan.add(new Planned(parent, answer, guess));
    return plan.size() - 1;
  }

  private List<Integer> meant(int k) {
    if (k == 0) return left();
    Planned node = plan.get(k);
    List<Integer> there = parts(row(plan.get(node.parent).guess), meant(node.parent)).get(node.answer);
    return there == null ? new ArrayList<>() : there;
  }

  private boolean whole(int k) {
    TreeMap<Integer, List<Integer>> parts = parts(row(plan.get(k).guess), meant(k));
    parts.remove(10 * places);
    List<Integer> answers = new ArrayList<>();
    for (int n = 1; n < plan.size(); n++) if (plan.get(n).parent == k) answers.add(plan.get(n).answer);
    answers.sort(null);
    return answers.equals(new ArrayList<>(parts.keySet()));
  }

  private int level(int k) {
    return k == 0 ? 1 : 1 + level(plan.get(k).parent);
  }

  private int judge() {
    if (plan.isEmpty() || left().isEmpty()) return NONE;
    if (lies != 0) return KIND;
    int deepest = 0;
    for (int k = 0; k < plan.size(); k++) {
      if (!whole(k)) return -20 - k;
      deepest = Math.max(deepest, level(k));
    }
    return deepest;
  }

  private int total() {
    if (judge() <= 0) return NONE;
    int total = 0;
    for (int code : left()) {
      int at = 0;
      total++;
      while (plan.get(at).guess != code) {
        int answer = answerOf(row(plan.get(at).guess), row(code)), next = -1;
        for (int n = 1; n < plan.size(); n++) {
          if (plan.get(n).parent == at && plan.get(n).answer == answer) next = n;
        }
        at = next;
        total++;
      }
    }
    return total;
  }

  private static boolean isShelf(int d) {
    return d >= 0 && d <= 5;
  }

  private int rack(int d, int sort, int n) {
    if (!isShelf(d) || sort < 1 || sort > 3 || n > 60) return NONE;
    if (n < 0) return refuse(SIZE);
    shelves[d] = sort == 1 ? new byte[n] : sort == 2 ? new char[n] : new short[n];
    return n;
  }

  private int keep(int d) {
    if (!isShelf(d)) return NONE;
    shelves[d] = new Kept(sortOfHand(), hand.clone());
    return sortOfHand();
  }

  private int sortOnShelf(int d) {
    Object o = shelves[d];
    return o == null ? 0 : o instanceof byte[] ? 1 : o instanceof char[] ? 2 : o instanceof short[] ? 3 : 4;
  }

  private int clear(int d) {
    if (!isShelf(d)) return NONE;
    int before = sortOnShelf(d);
    shelves[d] = null;
    return before;
  }

  private int length(int d) {
    return java.lang.reflect.Array.getLength(shelves[d]);
  }

  private int element(int d, int i) {
    Object o = shelves[d];
    return o instanceof byte[] b ? b[i] : o instanceof char[] c ? c[i] : ((short[]) o)[i];
  }

  private int put(int d, int i, int v) {
    if (!isShelf(d)) return NONE;
    if (sortOnShelf(d) == 0) return refuse(NOTHING);
    if (sortOnShelf(d) == 4) return refuse(CAST);
    if (i < 0 || i >= length(d)) return refuse(PLACE);
    int before = element(d, i);
    Object o = shelves[d];
    if (o instanceof byte[] b) b[i] = (byte) v;
    if (o instanceof char[] c) c[i] = (char) v;
    if (o instanceof short[] s) s[i] = (short) v;
    return before;
  }

  private int at(int d, int i) {
    if (!isShelf(d)) return ARGUMENT;
    if (sortOnShelf(d) == 0 || sortOnShelf(d) == 4 || i < 0 || i >= length(d)) return STATE;
    return element(d, i);
  }

  private int copy(int d, int i, int e, int j, int n) {
    if (!isShelf(d) || !isShelf(e)) return NONE;
    if (sortOnShelf(d) == 0 || sortOnShelf(e) == 0) return refuse(NOTHING);
    if (sortOnShelf(d) == 4 || sortOnShelf(e) == 4 || sortOnShelf(d) != sortOnShelf(e)) return refuse(CAST);
    try {
      System.arraycopy(shelves[d], i, shelves[e], j, n);
    } catch (IndexOutOfBoundsException x) {
      return refuse(PLACE);
    }
    return n;
  }

  private int take(int d, int i) {
    if (!isShelf(d)) return NONE;
    if (sortOnShelf(d) == 0) return refuse(NOTHING);
    if (sortOnShelf(d) == 4) return refuse(CAST);
    if (i < 0 || (long) i + places > length(d)) return refuse(PLACE);
    int[] taken = new int[places];
    for (int k = 0; k < places; k++) {
      int v = element(d, i + k);
      int blank = sortOnShelf(d) == 2 ? 65535 : -1;
      if (v != blank && (v < 0 || v >= colours)) return COLOUR;
      taken[k] = v == blank ? -1 : v;
    }
    hand = taken;
    return sortOfHand();
  }

  private int kept(int d, int what) {
    if (!isShelf(d) || what < 0 || what > 8) return NONE;
    if (sortOnShelf(d) == 0) return refuse(NOTHING);
    if (!(shelves[d] instanceof Kept kept)) return refuse(CAST);
    int set = (int) Arrays.stream(kept.pegs).filter(p -> p >= 0).count();
    int[] weights = {set, 10 + set, 2 * (10 + set), set - (kept.pegs.length - set), 2 * (10 + set) + 1};
    int[] ranks = {1, 2, 2, 0, 7};
    if (what == 0) return kept.sort;
    if (what == 1) return weights[kept.sort];
    if (what == 2) return ranks[kept.sort];
    if (what == 3) return kept.pegs.length;
    return what - 4 < kept.pegs.length ? kept.pegs[what - 4] : refuse(PLACE);
  }

  private int toss(int d) {
    if (!isShelf(d)) return NONE;
    if (sortOnShelf(d) == 0) return refuse(NOTHING);
    if (!(shelves[d] instanceof Kept kept)) return refuse(CAST);
    for (int peg : kept.pegs) if (peg >= 0) return 1 + kept.sort;
    return refuse(THROWN);
  }

  private int count(int what) {
    switch (what) {
      case 0: return places;
      case 1: return colours;
      case 2: return codes();
      case 3: return allowedCount();
      case 4: return left().size();
      case 5: return turns.size();
      case 6: return parts(hand, left()).size();
      case 7: return tree.size();
      case 8: return plan.size();
      case 9: return lies;
      case 10: return law;
      case 11: return list.size();
      case 12: return refusals;
      default: return NONE;
    }
  }
}
