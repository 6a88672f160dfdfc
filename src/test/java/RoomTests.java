import java.lang.management.ManagementFactory;
import java.lang.reflect.Array;
import java.lang.reflect.Field;
import java.lang.reflect.Modifier;
import java.util.Collections;
import java.util.IdentityHashMap;
import java.util.Set;

/**
 * All calls of one run live in one room, so what they use is made with the object: a new one must be small, and no
 * call may make anything but the exceptions that the document asks for.
 */
public final class RoomTests {
  private static final int CALLS = 512;
  /** A small part of the room's 600,000 objects and 7.3 million fields and elements. */
  private static final long MOST_OBJECTS = 200, MOST_ELEMENTS = 100_000;
  /** Of one exception, with what the machine notes in it of where it was thrown. */
  private static final long MOST_THROWN_BYTES = 2_000;
  private static final com.sun.management.ThreadMXBean METER =
      (com.sun.management.ThreadMXBean) ManagementFactory.getThreadMXBean();
  private static final String[] NAMES = {"few codes", "most codes", "growing", "shelves", "turns", "lies", "trees",
    "plans", "looks", "throws"};
  private static final int THROWS = 9;

  private static int wrong = 0;

  private RoomTests() { }

  private static void check(boolean good, String what) {
    if (!good) {
      wrong++;
      System.out.println("the room: " + what);
    }
  }

  /** One step of a run: a few calls that are dear, or that want rows of another length than the last step's. */
  private static void step(PegCourt x, int kind, int i) {
    switch (kind) {
      case 0: x.begin(1 + i % 2, 1 + i % 3); x.law(i % 4, 1); x.count(6); break;
      case 1: x.begin(4 + i % 2, i % 2 == 0 ? 8 : 5); x.law(2, 9); x.show(i); x.tell(i % 4); break;
      case 2: x.begin(1 + i / 8 % 5, 1 + i % 8); x.like(0, 0); x.least(i % 2); break;
      case 3: shelfStep(x, i); break;
      case 4: if (i % 2 == 0) x.show(i % 64); else if (x.tell(i % 31) < 0) x.undo(); break;
      case 5: if (i % 32 == 0) x.begin(3, 4); x.lies(2); x.show(i % 64); x.tell(i % 3); x.quarrel(-1); break;
      case 6: treeStep(x, i); break;
      case 7: x.plan(i == 0 ? -1 : i % 40, i % 31, i % 64); x.judge(); x.total(); if (i % 50 == 49) x.drop(); break;
      case 8: x.like(i % 64, i * 5 % 64); x.among(i % 4); x.part(i % 9, i % 2); x.reply(i % 64); x.sort(); break;
      default: x.show(i % 64); x.keep(i % 6); x.toss(i % 6); atOfNoRow(x, i % 7); break;
    }
  }

  private static void shelfStep(PegCourt x, int i) {
    x.rack(i % 6, 1 + i % 3, i % 61);
    x.put(i % 6, i % 60, -1);
    x.copy(i % 6, 0, (i + 3) % 6, 1, i % 60);
    x.take(i % 6, 0);
    x.keep((i + 1) % 6);
    x.kept((i + 1) % 6, i % 9);
    x.clear((i + 2) % 6);
  }

  private static void treeStep(PegCourt x, int i) {
    if (i % 8 == 0) x.begin(4, 6);
    x.enlist(i * 37 % 1296);
    x.law(3, 0);
    x.least(i % 2);
    x.sum(i % 2, i % 21);
    x.best(i / 2 % 2, i % 2, 0);
    x.tree(i % 2, 0);
    x.node(0, i % 5);
  }

  private static void atOfNoRow(PegCourt x, int d) {
    try {
      x.at(d, 0);
      check(false, "at() of no row must throw");
    } catch (IllegalArgumentException | IllegalStateException asDue) {
      return;
    }
  }

  /** All that a court holds: itself, its own objects and its rows, each once. */
  private static Set<Object> heldBy(PegCourt x) throws IllegalAccessException {
    Set<Object> held = Collections.newSetFromMap(new IdentityHashMap<>());
    gather(x, held);
    return held;
  }

  private static void gather(Object o, Set<Object> held) throws IllegalAccessException {
    if (o == null || !held.add(o)) return;
    Class<?> type = o.getClass();
    if (type.isArray()) {
      if (type.getComponentType().isPrimitive()) return;
      for (int i = 0; i < Array.getLength(o); i++) gather(Array.get(o, i), held);
      return;
    }
    for (Field f : type.getDeclaredFields()) {
      if (Modifier.isStatic(f.getModifiers()) || f.getType().isPrimitive()) continue;
      f.setAccessible(true);
      gather(f.get(o), held);
    }
  }

  private static long elementsOf(Set<Object> held) {
    long elements = 0;
    for (Object o : held) {
      if (o.getClass().isArray()) {
        elements += Array.getLength(o);
      } else {
        for (Field f : o.getClass().getDeclaredFields()) if (!Modifier.isStatic(f.getModifiers())) elements++;
      }
    }
    return elements;
  }

  private static void newObject() throws IllegalAccessException {
    Set<Object> held = heldBy(new PegCourt());
    long elements = elementsOf(held);
    System.out.println("a new court: " + held.size() + " objects and rows, " + elements + " fields and elements");
    check(held.size() <= MOST_OBJECTS, "too many objects");
    check(elements <= MOST_ELEMENTS, "too many elements");
  }

  private static void sameRowsAfter(int kind) throws IllegalAccessException {
    PegCourt x = new PegCourt();
    Set<Object> before = heldBy(x);
    for (int i = 0; i < CALLS; i++) step(x, kind, i);
    Set<Object> after = heldBy(x);
    check(before.size() == after.size() && before.containsAll(after), NAMES[kind] + ": other rows than at first");
  }

  private static long bytesOfSteps(int kind) {
    PegCourt x = new PegCourt();
    long before = METER.getCurrentThreadAllocatedBytes();
    for (int i = 0; i < CALLS; i++) step(x, kind, i);
    return METER.getCurrentThreadAllocatedBytes() - before;
  }

  /** The machine itself now and then makes something at its own time, so the least of several measures counts. */
  private static void nothingMadeBy(int kind) {
    long bytes = Long.MAX_VALUE;
    for (int times = 0; times < 5; times++) bytes = Math.min(bytes, bytesOfSteps(kind));
    System.out.println("calls, " + NAMES[kind] + ": " + bytes + " bytes made");
    check(bytes <= (kind == THROWS ? 2 * CALLS * MOST_THROWN_BYTES : 0), NAMES[kind] + ": calls make too much");
  }

  public static void main(String[] args) throws Exception {
    newObject();
    for (int kind = 0; kind < NAMES.length; kind++) {
      sameRowsAfter(kind);
      nothingMadeBy(kind);
    }
    if (wrong != 0) System.exit(1);
  }
}
