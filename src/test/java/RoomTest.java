import java.lang.management.ManagementFactory;

/** All calls of a run live in one room: rows are made in constructors, and only town() makes any later. */
public final class RoomTest extends Checks {
  private static final String TOWN = "town 8 5;bridge 0 1;bridge 1 2;bridge 2 3;bridge 3 0;bridge 4 5;bridge 5 6;bridge 6 4;"
      + "bridge 0 4;bridge 1 0;ferry 0 7;frost 1 2;person 0;person 4;person 7;person 0;want 0 2 1 9;want 0 1 3 5;want 1 6 0 8";
  private static final String RULE = "cross nearer * 5 + left if [ not until < 3 or pay > 1 ] and day / left % to >= 0;cross 1";
  private static final com.sun.management.ThreadMXBean ROOM =
      (com.sun.management.ThreadMXBean) ManagementFactory.getThreadMXBean();

  public static void main(String[] args) {
    newObjects();
    towns();
    rules();
    acts();
    questions();
    finish();
  }

  private static ThriceBridge full() {
    ThriceBridge t = in(TOWN);
    rule(t, RULE);
    return t;
  }

  private static long taken() { return ROOM.getThreadAllocatedBytes(Thread.currentThread().getId()); }

  /** How many bytes so many calls take, the measuring itself left out. */
  private static long bytesOf(Call call, ThriceBridge t, int calls) {
    long idle = taken();
    long before = taken();
    for (int i = 0; i < calls; i++) call.on(t);
    return taken() - before - (before - idle);
  }

  private static void takesNothing(String name, Call call) {
    long least = Long.MAX_VALUE;
    // The machine takes room of its own now and then; what the calls take shows in every try.
    for (int i = 0; i < 10 && least != 0; i++) {
      ThriceBridge t = full();
      call.on(t);
      least = Math.min(least, bytesOf(call, t, 100));
    }
    due(name + ", bytes in 100 calls", (int) least, 0);
  }

  private static void atMost(String name, long bytes, int most) {
    about(name);
    due(name + " took " + bytes + " bytes: more than " + most, bytes > most ? 1 : 0, 0);
  }

  private static void newObjects() {
    ThriceBridge t = new ThriceBridge();
    atMost("100 new objects", bytesOf(x -> new ThriceBridge().count(0), t, 100), 100 * 50_000);
  }

  private static void towns() {
    ThriceBridge t = full();
    atMost("100 texts with a fault", bytesOf(ThriceBridge::town, t, 100), 100 * 2_000);
  }

  private static void rules() {
    about("rules");
    takesNothing("feed, end", x -> x.feed(1, 2, 3, 4, 5) + x.end(0));
    takesNothing("rule", ThriceBridge::rule);
    takesNothing("rule of a text", x -> { x.feed(0x63726f73, 0x73203120, 0x69662031, 0x3c322020, 0); x.end(18); return x.rule(); });
  }

  private static void acts() {
    about("acts");
    takesNothing("cross", x -> x.cross(0, 0));
    takesNothing("sail", x -> x.sail(0, 0));
    takesNothing("carry", x -> x.carry(0, 3, 0));
    takesNothing("rebuild", x -> { x.cross(0, 8); return x.rebuild(8); });
    takesNothing("day, undo", x -> x.day() + x.undo());
    takesNothing("day", ThriceBridge::day);
    takesNothing("run", x -> x.run(0, 5));
    takesNothing("seed", x -> x.seed(5));
    takesNothing("image, back", x -> x.image(1) + x.back(1));
  }

  private static void questions() {
    about("questions");
    takesNothing("person", x -> x.person(0, 3) + x.person(0, 4) + x.person(0, 5));
    takesNothing("left, bridge", x -> x.left(0, 0) + x.bridge(0, 2));
    takesNothing("way", x -> x.way(0, 6, 1));
    takesNothing("life", x -> x.life(0, 6, 1));
    takesNothing("worth", x -> x.worth(0, 0, 6));
    takesNothing("more", x -> x.more(0, 6));
    takesNothing("meet", x -> x.meet(0, 1, 0));
    takesNothing("best", x -> x.best(2));
    takesNothing("alone", ThriceBridge::alone);
    takesNothing("letter", x -> x.letter(0, 1, 1));
    takesNothing("came", x -> { x.cross(0, 0); x.cross(0, 8); return x.came(0, 2); });
    takesNothing("trail", x -> x.trail(0, 1));
    takesNothing("lives", x -> x.lives(2, 10, 1));
    takesNothing("count", x -> x.count(9) + x.count(10));
  }
}
