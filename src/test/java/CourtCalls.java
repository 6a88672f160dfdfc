/** A call of PegCourt by its name, with what at() throws told as a number. */
final class CourtCalls {
  private CourtCalls() { }

  static int call(PegCourt x, String name, int... a) {
    switch (name) {
      case "begin": return x.begin(a[0], a[1]);
      case "law": return x.law(a[0], a[1]);
      case "enlist": return x.enlist(a[0]);
      case "lies": return x.lies(a[0]);
      case "peg": return x.peg(a[0], a[1]);
      case "show": return x.show(a[0]);
      case "hand": return x.hand(a[0]);
      case "sort": return x.sort();
      case "answer": return x.answer(a[0], a[1]);
      case "reply": return x.reply(a[0]);
      case "tell": return x.tell(a[0]);
      case "undo": return x.undo();
      case "quarrel": return x.quarrel(a[0]);
      case "turn": return x.turn(a[0], a[1]);
      case "left": return x.left(a[0]);
      case "falses": return x.falses(a[0]);
      case "part": return x.part(a[0], a[1]);
      case "among": return x.among(a[0]);
      case "like": return x.like(a[0], a[1]);
      case "least": return x.least(a[0]);
      case "sum": return x.sum(a[0], a[1]);
      case "best": return x.best(a[0], a[1], a[2]);
      case "tree": return x.tree(a[0], a[1]);
      case "node": return x.node(a[0], a[1]);
      case "plan": return x.plan(a[0], a[1], a[2]);
      case "drop": return x.drop();
      case "judge": return x.judge();
      case "total": return x.total();
      case "rack": return x.rack(a[0], a[1], a[2]);
      case "keep": return x.keep(a[0]);
      case "clear": return x.clear(a[0]);
      case "put": return x.put(a[0], a[1], a[2]);
      case "at": return at(x, a[0], a[1]);
      case "copy": return x.copy(a[0], a[1], a[2], a[3], a[4]);
      case "take": return x.take(a[0], a[1]);
      case "kept": return x.kept(a[0], a[1]);
      case "toss": return x.toss(a[0]);
      case "count": return x.count(a[0]);
      default: throw new AssertionError(name);
    }
  }

  private static int at(PegCourt x, int d, int i) {
    try {
      return x.at(d, i);
    } catch (IllegalArgumentException e) {
      return PlainCourt.ARGUMENT;
    } catch (IllegalStateException e) {
      return PlainCourt.STATE;
    }
  }
}
