/** What the document asks, promise by promise, with answers worked out by hand. */
public final class PromisesTest extends Checks {
  /** Four quarters, a short bridge for one person, another one shut in, a ferry, a frost. */
  private static final String RIVER = "town 4 3;bridge 0 1;bridge 1 2;bridge 2 3;bridge 0 2;ferry 1 3;frost 2 4;"
      + "person 0;person 3;person 1;crossed 0 0 2;crossed 1 2 3;"
      + "want 0 2 1 10;want 0 1 3 5;want 1 2 0 8;want 2 0 2 6";

  public static void main(String[] args) {
    newObject();
    tape();
    towns();
    townFaults();
    townCounts();
    rules();
    ruleFaults();
    ruleLimits();
    people();
    bridges();
    crossing();
    sailing();
    carrying();
    rebuilding();
    days();
    undoing();
    runs();
    ruleWords();
    ruleReckoning();
    ways();
    plannedLives();
    worths();
    meetings();
    bestAndAlone();
    letters();
    stories();
    trails();
    drawnLives();
    counts();
    images();
    finish();
  }

  // ---- promise 1
  private static void newObject() {
    about("new object");
    ThriceBridge t = new ThriceBridge();
    for (int what = 0; what <= 13; what++) due("count " + what, t.count(what), 0);
    due("person", t.person(0, 0), NONE);
    due("left", t.left(0, 0), NONE);
    due("bridge", t.bridge(0, 0), NONE);
    due("cross", t.cross(0, 0), NONE);
    due("sail", t.sail(0, 0), NONE);
    due("carry", t.carry(0, 1, 0), NONE);
    due("rebuild", t.rebuild(0), NONE);
    due("day", t.day(), NONE);
    due("undo", t.undo(), NONE);
    due("run", t.run(0, 1), NONE);
    due("way", t.way(0, 0, 0), -3);
    due("life", t.life(0, 1, 0), -3);
    due("worth", t.worth(0, 0, 1), NONE);
    due("more", t.more(0, 1), NONE);
    due("meet", t.meet(0, 1, 0), NONE);
    due("best", t.best(0), NONE);
    due("alone", t.alone(), NONE);
    due("letter", t.letter(0, 1, 0), NONE);
    due("came", t.came(0, 0), NONE);
    due("trail", t.trail(0, 0), NONE);
    due("lives", t.lives(1, 1, 0), NONE);
    due("back", t.back(0), NONE);
    due("constant", ThriceBridge.NONE, NONE);
    rule(t, "cross 1");
    due("run without a town", t.run(0, 1), NONE);
  }

  // ---- promises 2 and 3
  private static void tape() {
    about("tape");
    ThriceBridge t = new ThriceBridge();
    due("end(1)", t.end(1), NONE);
    due("end(0)", t.end(0), 0);
    for (int i = 1; i <= 20; i++) due("feed", t.feed(i, 0, 0, 0, -1), 20 * i);
    due("feed", t.feed(0, 0, 0, 0, 0), NONE);
    due("count(13)", t.count(13), 400);
    due("end(401)", t.end(401), NONE);
    due("end(-1)", t.end(-1), NONE);
    due("end least", t.end(Integer.MIN_VALUE), NONE);
    due("count(13)", t.count(13), 400);
    due("end(400)", t.end(400), 400);
    due("end(381)", t.end(381), 381);
    due("feed", t.feed(0, 0, 0, 0, 0), NONE);
    due("end(380)", t.end(380), 380);
    due("feed", t.feed(0, 0, 0, 0, 0), 400);
    t.end(0);
    due("feed", t.feed(0x746F776E, 0x20322031, 0x3b706572, 0x736f6e20, 0x30202020), 20); // town 2 1;person 0
    due("town()", t.town(), 0);
    due("count(4)", t.count(4), 1);
    due("count(13)", t.count(13), 0);
  }

  // ---- promise 4
  private static void towns() {
    about("town");
    ThriceBridge t = in(RIVER);
    due("count(2)", t.count(2), 4);
    due("count(0)", t.count(0), 4);
    due("count(1)", t.count(1), 3);
    due("town, without blanks", town(t, "town00002 00005;bridge1 0;person1;crossed0 0 5;want0 0 99 50"), 1);
    due("left", t.left(0, 0), 0);
    due("home", t.person(0, 1), 1);
    due("bridge 0", t.bridge(0, 0), 1);
    due("bridge 1", t.bridge(0, 1), 0);
    due("town, with blanks", town(t, "   town  8   1 ;  ferry 7 0  ; frost 0 99  "), 0);
    due("count(0)", t.count(0), 8);
    due("count(3)", t.count(3), 1);
    due("count(8)", t.count(8), 1);
    due("town", town(t, RIVER), 4);
    t.seed(77);
    t.cross(0, 0);
    t.day();
    due("a fault", town(t, "town 2 1;"), fault(9, 0));
    due("all stays: day", t.count(7), 1);
    due("all stays: acts", t.count(11), 2);
    due("all stays: quarter", t.person(0, 0), 1);
    due("but the tape is empty", t.count(13), 0);
    due("feed", t.feed(0, 0, 0, 0, 0), 20);
    due("a fault", t.town(), fault(0, 0));
    due("the tape is empty", t.feed(0, 0, 0, 0, 0), 20);
    due("a town", town(t, "town 2 1;bridge 0 1;person 1"), 1);
    due("day", t.count(7), 0);
    due("acts", t.count(11), 0);
    due("undo", t.undo(), NONE);
    due("x stays", t.count(12), 77);
    due("wants", t.count(5), 0);
    due("quarter", t.person(0, 0), 1);
    due("pay", t.count(9), 0);
    due("of the same the last told", town(t, "town 2 3;bridge 0 1;person 0;crossed 0 0 3;crossed 0 0 1"), 1);
    due("left", t.left(0, 0), 2);
  }

  private static void townFaults() {
    about("town's faults");
    townFault("", 0, 0);
    townFault("   ", 3, 0);
    townFault("town", 4, 0);
    townFault("town ", 5, 0);
    townFault("town 2", 6, 0);
    townFault("town 1 3", 5, 1);
    townFault("town 9 3", 5, 1);
    townFault("town 2 0", 7, 1);
    townFault("town 2 6", 7, 1);
    townFault("town 21", 5, 1);
    townFault("town 000002 1", 5, 1);
    townFault("town x 1", 5, 0);
    townFault("town;2 1", 4, 0);
    townFault("towns 2 1", 0, 0);
    townFault("townz 2 1", 0, 0);
    townFault("atown 2 1", 0, 0);
    townFault("town{2 1", 4, 0);
    townFault("town`2 1", 4, 0);
    townFault("Town 2 1", 0, 0);
    townFault("5", 0, 0);
    townFault("town 2 1;", 9, 0);
    townFault("town 2 1;  ", 11, 0);
    townFault("town 2 1;;", 9, 0);
    townFault("town 2 1 1", 9, 0);
    townFault("town 2 1x", 8, 0);
    townFault("town 2 1\t", 8, 0);
    townFault("town 2 1\u0000", 8, 0);
    townFault("town 2 1;bridg\u00e9 0 1", 9, 0);
    townFault(" bridge 0 1", 1, 4);
    townFault("bridges 0 1", 0, 0);
    townFault("town 2 1;town 2 1", 9, 4);
    townFault("town 2 1; town 9 9", 10, 4);
    townFault("town 2 1;bridge 2 0", 16, 1);
    townFault("town 2 1;bridge 0 2", 18, 1);
    townFault("town 2 1;bridge 0 0", 18, 1);
    townFault("town 2 1;ferry 1 1", 17, 1);
    townFault("town 2 1;ferry 1", 16, 0);
    townFault("town 2 1;frost 100 100", 15, 1);
    townFault("town 2 1;frost 5 4", 17, 1);
    townFault("town 2 1;frost 5 100", 17, 1);
    townFault("town 2 1;person 2", 16, 1);
    townFault("town 2 1;crossed 0 0 0", 17, 1);
    townFault("town 2 1;person 0;crossed 0 0 0", 28, 1);
    townFault("town 2 1;person 0;bridge 0 1;crossed 0 0 2", 41, 1);
    townFault("town 2 1;person 0;bridge 0 1;crossed 1 0 1", 37, 1);
    townFault("town 2 1;want 0 0 0 1", 14, 1);
    townFault("town 2 1;person 0;want 0 2 0 1", 25, 1);
    townFault("town 2 1;person 0;want 0 0 100 1", 27, 1);
    townFault("town 2 1;person 0;want 0 0 0 0", 29, 1);
    townFault("town 2 1;person 0;want 0 0 0 51", 29, 1);
    townFault("town 2 1;person 0;want 0 0 0", 28, 0);
    townFault("town 9 1;nonsense", 5, 1);
  }

  private static void townCounts() {
    about("town's limits");
    String town = "town 2 1";
    ThriceBridge t = new ThriceBridge();
    String nine = town + times(";bridge 0 1", 9);
    due("nine bridges", town(t, nine), 9);
    townFault(nine + ";bridge 0 1", nine.length() + 1, 4);
    townFault(nine + "; bridgy", nine.length() + 2, 0);
    String four = town + times(";ferry 0 1", 4);
    due("four ferries", town(t, four), 0);
    due("count(3)", t.count(3), 4);
    townFault(four + ";ferry", four.length() + 1, 4);
    four = town + times(";frost 0 1", 4);
    due("four frosts", town(t, four), 0);
    townFault(four + ";frost 0 1", four.length() + 1, 4);
    four = town + times(";person 1", 4);
    due("four people", town(t, four), 0);
    due("count(4)", t.count(4), 4);
    townFault(four + ";person 0", four.length() + 1, 4);
    String eight = town + ";person 0" + times(";want 0 1 2 3", 8);
    due("eight wants", town(t, eight), 0);
    due("count(5)", t.count(5), 8);
    townFault(eight + ";want 0 1 2 3", eight.length() + 1, 4);
  }

  // ---- promise 5
  private static void rules() {
    about("rule");
    ThriceBridge t = new ThriceBridge();
    due("rule", rule(t, "cross 1"), 0);
    due("count(13)", t.count(13), 0);
    due("rule", rule(t, "cross left*5+1if not[left<=2 or day>3]and to=goal;cross 0"), 1);
    due("rule", rule(t, " cross person + bridge-from*to/home%left if day = goal and pay < until or nearer > people ; cross 7 "), 2);
    due("rule", rule(t, "cross 99999 if [ [ 1 = 1 ] ]"), 3);
    due("a fault", rule(t, "cross"), fault(5, 0));
    due("the tape is empty", t.count(13), 0);
    due("feed", t.feed(0, 0, 0, 0, 0), 20);
    due("a fault", t.rule(), fault(0, 0));
    due("the tape is empty", t.feed(0, 0, 0, 0, 0), 20);
    due("rule", rule(t, "cross 1 if not not 1>=0"), 4);
    due("rule", rule(t, "cross 1"), 5);
    due("count(6)", t.count(6), 6);
    due("a seventh", rule(t, "cross 1"), NONE);
    due("the tape stays", t.count(13), 7);
    due("a seventh with a fault", rule(t, "cros"), NONE);
    due("count(6)", t.count(6), 6);
    due("a town behind them", town(t, "town 2 1;person 0"), 0);
    due("rules stay", t.count(6), 6);
  }

  private static void ruleFaults() {
    about("rule's faults");
    ruleFault("", 0, 0);
    ruleFault("cross", 5, 0);
    ruleFault("cross  ", 7, 0);
    ruleFault("crosss 1", 0, 0);
    ruleFault("1", 0, 0);
    ruleFault("town 2 1", 0, 0);
    ruleFault("cross x", 6, 0);
    ruleFault("cross if 1=1", 6, 0);
    ruleFault("cross not 1", 6, 0);
    ruleFault("cross [1]", 6, 0);
    ruleFault("cross -1", 6, 0);
    ruleFault("cross 1;", 8, 0);
    ruleFault("cross 1;;", 8, 0);
    ruleFault("cross 1 if", 10, 0);
    ruleFault("cross 1 iff 1=1", 8, 0);
    ruleFault("cross 1 1", 8, 0);
    ruleFault("cross left left", 11, 0);
    ruleFault("cross left1", 10, 0);
    ruleFault("cross leftif 1=1", 6, 0);
    ruleFault("cross 5 %", 9, 0);
    ruleFault("cross 5 % *", 10, 0);
    ruleFault("cross 100000", 6, 1);
    ruleFault("cross 1+000001", 8, 1);
    ruleFault("cross 1 = 1", 8, 0);
    ruleFault("cross 1 if 1", 12, 0);
    ruleFault("cross 1 if 1 and 1=1", 13, 0);
    ruleFault("cross 1 if 1=", 13, 0);
    ruleFault("cross 1 if 1==1", 13, 0);
    ruleFault("cross 1 if 1< =1", 14, 0);
    ruleFault("cross 1 if 1=<1", 13, 0);
    ruleFault("cross 1 if 1=1=1", 14, 0);
    ruleFault("cross 1 if 1=1 and", 18, 0);
    ruleFault("cross 1 if 1=1 andd 1=1", 15, 0);
    ruleFault("cross 1 if 1=1 or or", 18, 0);
    ruleFault("cross 1 if left = 1]", 19, 0);
    ruleFault("cross 1 if [left = 1", 20, 0);
    ruleFault("cross 1 if [1=1;cross 1", 15, 0);
    ruleFault("cross 1 if [1=1]]", 16, 0);
    ruleFault("cross 1 if [1+1]=2", 15, 0);
    ruleFault("cross 1 if not", 14, 0);
    ruleFault("cross 1 if nott 1=1", 11, 0);
    ruleFault("cross 1 if 1=1 if 1=1", 15, 0);
    ruleFault("cross 1 if []", 12, 0);
  }

  private static void ruleLimits() {
    about("rule's limits");
    ThriceBridge t = new ThriceBridge();
    String twelve = "cross 1" + times(";cross 1", 11);
    due("twelve clauses", rule(t, twelve), 0);
    ruleFault(twelve + ";cross 1", twelve.length() + 1, 4);
    ruleFault(twelve + "; cros", twelve.length() + 2, 0);
    ruleFault(twelve + ";", twelve.length() + 1, 0);
    due("ten nots", rule(t, "cross 1 if " + times("not ", 10) + "1=1"), 1);
    ruleFault("cross 1 if " + times("not ", 10) + " not 1=1", 52, 2);
    ruleFault("cross 1 if " + times("not ", 10) + " nota 1=1", 52, 0);
    due("ten brackets", rule(t, "cross 1 if " + times("[", 10) + "1=1" + times("]", 10)), 2);
    ruleFault("cross 1 if " + times("[", 11) + "1=1" + times("]", 11), 21, 2);
    ruleFault("cross 1 if " + times("not[", 5) + "not 1=1", 31, 2);
    due("deep twice", rule(t, "cross 1 if " + times("not[", 5) + "1=1" + times("]", 5) + "and " + times("[", 10) + "1=1"
        + times("]", 10)), 3);
    String sixty = "cross 1" + times("+1", 59);
    due("sixty values", rule(t, sixty), 4);
    ruleFault(sixty + "+1", sixty.length() + 1, 3);
    ruleFault(sixty + "+100000", sixty.length() + 1, 1);
    ruleFault(sixty + "+leff", sixty.length() + 1, 0);
    ruleFault(sixty + ";cross left", sixty.length() + 7, 3);
    String facts = "cross 1" + times("+1", 56) + " if 1=";
    due("values and a fact", rule(t, facts + "1"), 5);
    ruleFault(facts + "1 + 1", facts.length() + 4, 3);
    String many = "cross 1" + times("+1", 58) + " if 1";
    ruleFault(many + " <= 1", many.length() + 1, 3);
  }

  // ---- promise 6
  private static void people() {
    about("person");
    ThriceBridge t = in(RIVER);
    due("quarter", t.person(1, 0), 3);
    due("home", t.person(2, 1), 1);
    due("pay", t.person(0, 2), 0);
    due("reach", t.person(0, 3), 15);
    due("reach of one shut in", t.person(1, 3), 8);
    due("lost", t.person(0, 4), 0);
    due("lost", t.person(1, 4), 4);
    due("goal", t.person(0, 5), 2);
    due("goal", t.person(1, 5), 2);
    due("goal", t.person(2, 5), 0);
    due("nobody", t.person(3, 0), NONE);
    due("nobody", t.person(-1, 0), NONE);
    due("what", t.person(0, 6), NONE);
    due("what", t.person(0, -1), NONE);
    t.cross(0, 0);
    due("quarter", t.person(0, 0), 1);
    due("home", t.person(0, 1), 0);
    due("lost", t.person(0, 4), 1);
    due("reach", t.person(0, 3), 15);
    t.cross(0, 1);
    t.day();
    due("goal on the day itself", t.person(0, 5), 2);
    due("goal without more wants", t.person(1, 5), 3);
    due("day", t.day(), 10);
    due("goal", t.person(0, 5), 1);
    due("pay", t.person(0, 2), 10);
    t = in("town 3 1;person 0;want 0 2 5 1;want 0 1 5 9");
    due("goal, of several the first told", t.person(0, 5), 2);
  }

  // ---- promises 7 and 8
  private static void bridges() {
    about("left and bridge");
    ThriceBridge t = in(RIVER);
    due("left", t.left(0, 0), 1);
    due("left", t.left(0, 1), 3);
    due("left", t.left(1, 2), 0);
    due("left", t.left(3, 0), NONE);
    due("left", t.left(-1, 0), NONE);
    due("left", t.left(0, 4), NONE);
    due("left", t.left(0, -1), NONE);
    due("first", t.bridge(3, 0), 0);
    due("second", t.bridge(3, 1), 2);
    due("crossed", t.bridge(3, 2), 0);
    due("crossed", t.bridge(0, 2), 2);
    due("crossed", t.bridge(2, 2), 3);
    due("bridge", t.bridge(4, 0), NONE);
    due("bridge", t.bridge(-1, 0), NONE);
    due("what", t.bridge(0, 3), NONE);
    due("what", t.bridge(0, -1), NONE);
    t.cross(2, 0);
    t.cross(0, 0);
    due("crossed", t.bridge(0, 2), 4);
    due("left", t.left(0, 0), 0);
    due("left", t.left(2, 0), 2);
  }

  // ---- promise 9
  private static void crossing() {
    about("cross");
    ThriceBridge t = in(RIVER);
    due("not there", t.cross(0, 1), NONE);
    due("nothing left", t.cross(1, 2), NONE);
    due("nobody", t.cross(3, 0), NONE);
    due("nobody", t.cross(-1, 0), NONE);
    due("no bridge", t.cross(0, 4), NONE);
    due("no bridge", t.cross(0, -1), NONE);
    due("acts", t.count(11), 0);
    due("there", t.cross(0, 0), 1);
    due("and not back", t.cross(0, 0), NONE);
    due("acts", t.count(11), 1);
    due("on", t.cross(0, 1), 2);
    due("back", t.cross(0, 1), 1);
    due("on", t.cross(0, 1), 2);
    due("no more", t.cross(0, 1), NONE);
    due("on", t.cross(0, 2), 3);
  }

  // ---- promise 10
  private static void sailing() {
    about("sail");
    ThriceBridge t = in(RIVER);
    due("not there", t.sail(0, 0), NONE);
    due("there", t.sail(1, 0), 1);
    due("other way", t.sail(2, 0), 3);
    due("back", t.sail(1, 0), 3);
    due("it counts nothing", t.left(1, 0), 3);
    due("acts", t.count(11), 3);
    due("no ferry", t.sail(1, 1), NONE);
    due("no ferry", t.sail(1, -1), NONE);
    due("nobody", t.sail(3, 0), NONE);
    due("nobody", t.sail(-1, 0), NONE);
    t.day();
    due("day 1", t.sail(1, 0), 1);
    for (int day = 2; day <= 4; day++) {
      t.day();
      due("frost", t.sail(1, 0), NONE);
      due("count(8)", t.count(8), 1);
    }
    t.day();
    due("day 5", t.sail(1, 0), 3);
    due("count(8)", t.count(8), 0);
    due("undo", t.undo(), t.count(11));
    due("quarter", t.person(1, 0), 1);
  }

  // ---- promise 11
  private static void carrying() {
    about("carry");
    ThriceBridge t = in("town 3 1;bridge 0 1;bridge 1 2;person 0;person 0;person 1");
    due("oneself", t.carry(0, 0, 0), NONE);
    due("nobody", t.carry(0, 3, 0), NONE);
    due("nobody", t.carry(3, 0, 0), NONE);
    due("nobody", t.carry(-1, 0, 0), NONE);
    due("no bridge", t.carry(0, 1, 2), NONE);
    due("no bridge", t.carry(0, 1, -1), NONE);
    due("another quarter", t.carry(0, 2, 0), NONE);
    due("not there", t.carry(0, 1, 1), NONE);
    due("acts", t.count(11), 0);
    due("over", t.carry(0, 1, 0), 1);
    due("asleep", t.person(1, 0), 1);
    due("who crosses", t.left(0, 0), 0);
    due("who sleeps", t.left(1, 0), 1);
    due("nothing left", t.carry(0, 1, 0), NONE);
    due("the other way round", t.carry(1, 0, 0), 0);
    due("undo", t.undo(), 1);
    due("asleep", t.person(0, 0), 1);
    due("who crosses", t.person(1, 0), 1);
    due("left", t.left(1, 0), 1);
    due("the one asleep needs nothing left", t.carry(2, 0, 0), 0);
    due("came asleep", t.came(1, 0), 0);
  }

  // ---- promise 12
  private static void rebuilding() {
    about("rebuild");
    ThriceBridge t = in(RIVER);
    due("not crossed", t.rebuild(1), NONE);
    due("no bridge", t.rebuild(4), NONE);
    due("no bridge", t.rebuild(-1), NONE);
    due("acts", t.count(11), 0);
    due("cross", t.cross(2, 0), 0);
    due("rebuild", t.rebuild(0), 3);
    due("forgotten", t.bridge(0, 2), 0);
    due("left", t.left(0, 0), 3);
    due("left", t.left(2, 0), 3);
    due("not crossed any more", t.rebuild(0), NONE);
    due("people stay", t.person(2, 0), 0);
    due("others stay", t.left(1, 2), 0);
    due("undo", t.undo(), 1);
    due("left", t.left(0, 0), 1);
    due("left", t.left(2, 0), 2);
    due("came", t.came(2, 0), 1);
  }

  // ---- promise 13
  private static void days() {
    about("day");
    ThriceBridge t = in("town 2 5;bridge 0 1;person 0;person 1;want 0 0 0 5;want 0 0 0 7;want 1 0 0 9;want 1 1 1 20;want 0 1 1 30");
    due("both wants", t.day(), 12);
    due("earned", t.person(0, 2), 12);
    due("not earned", t.person(1, 2), 0);
    due("day", t.count(7), 1);
    t.cross(0, 0);
    due("of two", t.day(), 50);
    due("all", t.count(9), 62);
    due("undo", t.undo(), 2);
    due("all", t.count(9), 12);
    due("day", t.count(7), 1);
    for (int i = 1; i < 240; i++) t.day();
    rule(t, "cross 0");
    for (int i = 0; i < 12; i++) due("run", t.run(0, 60), 0);
    due("day", t.count(7), 960);
    due("too far", t.run(0, 40), NONE);
    due("run", t.run(0, 38), 0);
    due("day", t.day(), 0);
    due("day", t.count(7), 999);
    due("no day more", t.day(), NONE);
    due("no day more", t.run(0, 1), NONE);
    due("acts", t.count(11), 1);
    due("lives go on", t.lives(1, 1, 1), 0);
    due("undo", t.undo(), 0);
    due("day", t.count(7), 998);
    due("too far", t.run(0, 2), NONE);
    due("just as far", t.run(0, 1), 0);
    due("day", t.count(7), 999);
  }

  // ---- promise 14
  private static void undoing() {
    about("undo");
    ThriceBridge t = in("town 2 5" + times(";bridge 0 1", 5) + ";person 0");
    due("none", t.undo(), NONE);
    for (int i = 0; i < 25; i++) due("cross", t.cross(0, i / 5), 1 - i % 2);
    due("acts", t.count(11), 20);
    for (int i = 19; i >= 0; i--) due("undo", t.undo(), i);
    due("no more", t.undo(), NONE);
    due("quarter", t.person(0, 0), 1);
    due("left", t.left(0, 0), 0);
    due("left", t.left(0, 1), 5);
    due("came", t.came(0, 0), 1);
    t.day();
    t.rebuild(0);
    t.cross(0, 0);
    due("undo", t.undo(), 2);
    due("undo", t.undo(), 1);
    due("undo", t.undo(), 0);
    due("left", t.left(0, 0), 0);
    due("day", t.count(7), 0);
    due("seed is no act", t.seed(5), 0);
    due("undo", t.undo(), NONE);
  }

  // ---- promise 15
  private static void runs() {
    about("run");
    ThriceBridge t = in(RIVER);
    rule(t, "cross nearer * 5 + 1 if nearer >= 0");
    due("no rule", t.run(1, 1), NONE);
    due("no rule", t.run(-1, 1), NONE);
    due("no days", t.run(0, 0), NONE);
    due("too many days", t.run(0, 61), NONE);
    t.cross(0, 0);
    due("acts", t.count(11), 1);
    due("nothing happened", t.run(0, -1), NONE);
    due("acts", t.count(11), 1);
    t.undo();
    t.cross(2, 1);
    t.undo();
    t.sail(2, 0);
    t.sail(2, 0);
    due("day 0", t.run(0, 1), 0);
    due("can't be undone", t.undo(), NONE);
    due("who goes by the short way", t.person(0, 0), 2);
    due("who is shut in", t.person(1, 0), 3);
    due("who goes to the goal", t.person(2, 0), 0);
    due("day 1", t.run(0, 1), 10);
    due("who stays at the goal", t.person(0, 0), 2);
    due("day 2", t.run(0, 1), 6);
    due("who goes on", t.person(0, 0), 1);
    due("day", t.count(7), 3);
    due("all at once", town(t, RIVER), 4);
    due("three days", t.run(0, 3), 16);
    due("by whom", t.person(2, 2), 6);
    due("left", t.left(0, 3), 2);
  }

  private static ThriceBridge obeys(String town, String rule) {
    ThriceBridge t = in(town);
    due(rule, rule(t, rule), 0);
    t.run(0, 1);
    return t;
  }

  private static void ruleWords() {
    about("words of a rule");
    String far = "town 4 2;bridge 0 1;person 0;person 0;want 0 3 9 5";
    ThriceBridge t = obeys(far, "cross nearer");
    due("no bridges lead there: 99", t.person(0, 0), 1);
    due("away from home", t.person(1, 0), 0);
    t = obeys(far, "cross nearer - 98");
    due("it is 99", t.person(0, 0), 1);
    t = obeys(far, "cross nearer - 99");
    due("it is not more", t.person(0, 0), 0);
    t = obeys(far, "cross people");
    due("another one is here", t.person(0, 0), 1);
    due("nobody else is here any more", t.person(1, 0), 0);
    t = obeys(far, "cross 2 - people");
    due("one", t.person(0, 0), 1);
    String two = "town 5 4;bridge 0 1;bridge 0 2;bridge 0 3;bridge 3 4;person 0;person 0;crossed 0 1 3;want 1 4 6 11";
    due("bridge", obeys(two, "cross bridge").person(0, 0), 3);
    due("person", obeys(two, "cross person").person(0, 0), 0);
    due("person", obeys(two, "cross person").person(1, 0), 1);
    due("from", obeys(two, "cross from").person(0, 0), 0);
    due("to", obeys(two, "cross 4 - to").person(0, 0), 1);
    due("home", obeys(two, "cross home").person(0, 0), 0);
    due("left", obeys(two, "cross 1 if left = 1").person(0, 0), 2);
    due("day", obeys(two, "cross day").person(0, 0), 0);
    due("goal", obeys(two, "cross 1 if goal = 4 and to = 2").person(1, 0), 2);
    due("goal without", obeys(two, "cross 1 if goal = home and to = 2").person(0, 0), 2);
    due("pay", obeys(two, "cross pay").person(0, 0), 0);
    due("pay", obeys(two, "cross 1 if pay = 11").person(1, 0), 1);
    due("until", obeys(two, "cross until - 5").person(1, 0), 1);
    due("until", obeys(two, "cross until - 6").person(1, 0), 0);
    due("until without", obeys(two, "cross until").person(0, 0), 0);
    due("nearer", obeys(two, "cross nearer").person(1, 0), 3);
    due("nearer below 0", obeys(two, "cross 0 - nearer").person(1, 0), 1);
    due("nearer below 0", obeys(two, "cross 0 - nearer - 1").person(1, 0), 0);
    t = in(two);
    rule(t, "cross 1 if day = 1 and until = 5");
    t.run(0, 1);
    due("day 0", t.person(1, 0), 0);
    t.run(0, 1);
    due("day 1", t.person(1, 0), 1);
  }

  private static void crosses(String rule, boolean does) {
    ThriceBridge t = obeys("town 2 2;bridge 0 1;person 0", rule);
    due(rule, t.person(0, 0), does ? 1 : 0);
  }

  private static void ruleReckoning() {
    about("reckoning of a rule");
    crosses("cross 0", false);
    crosses("cross 1", true);
    crosses("cross 1 - 2", false);
    crosses("cross 2 + 3 * 4 - 13", true);
    crosses("cross 2 + 3 * 4 - 14", false);
    crosses("cross 9 - 4 - 4", true);
    crosses("cross 9 - 4 - 5", false);
    crosses("cross 8 / 4 / 2", true);
    crosses("cross 8 / 4 * 2 - 3", true);
    crosses("cross 17 % 10 % 4 - 2", true);
    crosses("cross 17 % 10 % 4 - 3", false);
    crosses("cross 7 / 0 + 7 % 0", false);
    crosses("cross 7 / 0 + 1", true);
    crosses("cross nearer * 7 / 2 + 4", true);
    crosses("cross nearer * 7 / 2 + 3", false);
    crosses("cross nearer * 7 % 4 + 3", false);
    crosses("cross nearer * 7 % 4 + 4", true);
    crosses("cross 99999 * 99999 * 99999 * 99999", true);
    crosses("cross 99999 * 99999 * 99999 * 99999 * 99999", false);
    crosses("cross 1 if 99999*99999*99999*99999/99999/99999/99999 = 7762", true);
    crosses("cross 1 if 2 < 2", false);
    crosses("cross 1 if 2 <= 2", true);
    crosses("cross 1 if 2 = 2", true);
    crosses("cross 1 if 2 >= 2", true);
    crosses("cross 1 if 2 > 2", false);
    crosses("cross 1 if 1 < 2", true);
    crosses("cross 1 if 3 <= 2", false);
    crosses("cross 1 if 1 >= 2", false);
    crosses("cross 1 if 1 = 2", false);
    crosses("cross 1 if not 1 = 2", true);
    crosses("cross 1 if not not 1 = 2", false);
    crosses("cross 1 if not 1 = 1 or 1 = 1", true);
    crosses("cross 1 if not [ 1 = 1 or 1 = 1 ]", false);
    crosses("cross 1 if 1 = 1 or 1 = 1 and 1 = 2", true);
    crosses("cross 1 if [ 1 = 1 or 1 = 1 ] and 1 = 2", false);
    crosses("cross 1 if 1 = 2 and 1 = 1 or 1 = 1", true);
    crosses("cross 1 if 1 = 2 and [ 1 = 1 or 1 = 1 ]", false);
    crosses("cross 1 if 1 = 2 or 1 = 2 or 1 = 1", true);
    crosses("cross 1 if 1 = 1 and 1 = 1 and 1 = 2", false);
    crosses("cross 1 if not 1 = 2 and not 1 = 3", true);
    crosses("cross 0;cross 1", false);
    crosses("cross 0 if 1 = 2;cross 1", true);
    crosses("cross 0 if 1 = 1;cross 1", false);
    crosses("cross 1 if 1 = 2", false);
    crosses("cross 0 - 1 if 1 = 2;cross 1 if 1 = 3;cross 1 if 1 = 1;cross 0", true);
    ThriceBridge t = obeys("town 3 2;bridge 0 2;bridge 0 1;person 0", "cross 5");
    due("of several the first", t.person(0, 0), 2);
    t = obeys("town 3 2;bridge 0 2;bridge 0 1;person 0;crossed 0 0 2", "cross 5 - bridge");
    due("of those they can", t.person(0, 0), 1);
    t = obeys("town 3 2;bridge 0 2;bridge 0 1;person 0", "cross bridge + 1");
    due("the greatest", t.person(0, 0), 1);
  }

  // ---- promise 16
  private static void ways() {
    about("way");
    ThriceBridge t = in(RIVER);
    due("how few", t.way(0, 3, 0), 2);
    due("first", t.way(0, 3, 1), 3);
    due("how few", t.way(0, 1, 0), 1);
    due("first", t.way(0, 1, 1), 0);
    due("there", t.way(0, 0, 0), 0);
    due("there", t.way(0, 0, 1), NONE);
    due("can't", t.way(1, 0, 0), -2);
    due("can't", t.way(1, 0, 1), -2);
    due("nobody", t.way(3, 0, 0), -3);
    due("nobody", t.way(-1, 0, 0), -3);
    due("no quarter", t.way(0, 4, 0), -3);
    due("no quarter", t.way(0, -1, 0), -3);
    due("what", t.way(0, 0, 2), -3);
    due("what", t.way(0, 0, -1), -3);
    t = in("town 4 1;bridge 3 1;bridge 2 3;bridge 0 2;bridge 1 0;person 0");
    due("of several the first", t.way(0, 3, 1), 2);
    t = in("town 3 1;bridge 0 1;bridge 1 0;bridge 1 2;person 0;crossed 0 0 1");
    due("with left", t.way(0, 2, 1), 1);
  }

  // ---- promise 17
  private static void plan(ThriceBridge t, int person, int n, int pay, int... row) {
    due("life(" + person + ", " + n + ", 0)", t.life(person, n, 0), pay);
    for (int i = 1; i <= 6; i++) {
      due("life(" + person + ", " + n + ", " + i + ")", t.life(person, n, i), i <= row.length ? row[i - 1] : -2);
    }
  }

  private static void plannedLives() {
    about("life");
    ThriceBridge t = in(RIVER);
    plan(t, 0, 1, 0, NONE);
    plan(t, 0, 2, 0, NONE, NONE);
    plan(t, 0, 3, 10, NONE, 3, 3);
    plan(t, 0, 4, 10, NONE, 3, NONE, 3);
    plan(t, 0, 5, 15, NONE, 3, NONE, 1, 0);
    plan(t, 0, 6, 15, NONE, 3, NONE, 1, NONE, 0);
    plan(t, 1, 6, 0, NONE, NONE, NONE, NONE, NONE, NONE);
    due("nobody", t.life(3, 1, 0), -3);
    due("nobody", t.life(-1, 1, 0), -3);
    due("days", t.life(0, 0, 0), -3);
    due("days", t.life(0, 7, 0), -3);
    due("what", t.life(0, 1, 7), -3);
    due("what", t.life(0, 1, -1), -3);
    t.sail(2, 0);
    plan(t, 2, 1, -2);
    plan(t, 2, 2, 0, 2, 1);
    t.day();
    plan(t, 0, 2, 10, 3, 3);
    due("nothing changed", t.left(0, 3), 3);
    t = in("town 2 1;bridge 0 1;bridge 1 0;bridge 0 1;person 0;want 0 1 1 3;want 0 1 1 4;want 0 1 4 9");
    plan(t, 0, 3, 7, NONE, 0, 1);
    plan(t, 0, 6, 16, NONE, 0, NONE, NONE, NONE, 1);
    t = in("town 3 1;bridge 0 1;bridge 0 2;person 0;want 0 1 0 50");
    plan(t, 0, 3, 0, NONE, NONE, NONE);
    t = in("town 2 3" + times(";bridge 0 1", 9) + ";person 0;want 0 1 0 2;want 0 0 1 2;want 0 1 2 2;want 0 0 3 2;want 0 1 4 2;want 0 0 5 2");
    plan(t, 0, 6, 12, 0, 0, 0, 1, 1, 1);
  }

  // ---- promises 18 and 19
  private static void worths() {
    about("worth and more");
    ThriceBridge t = in("town 3 2;bridge 0 1;bridge 1 2;person 0;crossed 0 0 1;crossed 0 1 1;want 0 1 0 8;want 0 2 2 20");
    due("one more to come home", t.worth(0, 0, 2), 8);
    due("of no use in one day", t.worth(0, 0, 1), 0);
    due("not enough alone", t.worth(0, 1, 5), 0);
    due("the near one alone", t.worth(0, 0, 5), 8);
    due("all", t.more(0, 5), 28);
    due("all", t.more(0, 2), 8);
    due("left stays", t.left(0, 0), 1);
    due("nobody", t.worth(1, 0, 1), NONE);
    due("nobody", t.worth(-1, 0, 1), NONE);
    due("no bridge", t.worth(0, 2, 1), NONE);
    due("no bridge", t.worth(0, -1, 1), NONE);
    due("days", t.worth(0, 0, 0), NONE);
    due("days", t.worth(0, 0, 7), NONE);
    due("nobody", t.more(1, 1), NONE);
    due("days", t.more(0, 0), NONE);
    due("days", t.more(0, 7), NONE);
    t.cross(0, 0);
    due("life can't be", t.life(0, 1, 0), -2);
    due("and could", t.worth(0, 0, 1), 0);
    due("and could", t.worth(0, 0, 2), 8);
    due("and could not", t.worth(0, 1, 2), 0);
    due("too far to come home", t.more(0, 4), 8);
    due("far enough", t.more(0, 5), 28);
    t = in("town 2 1;bridge 0 1;person 0;want 0 1 0 5");
    due("more than times", t.worth(0, 0, 2), 5);
    due("more than times", t.more(0, 2), 5);
  }

  // ---- promise 20
  private static void meetings() {
    about("meet");
    ThriceBridge t = in(RIVER);
    due("quarter", t.meet(0, 2, 0), 0);
    due("how many", t.meet(0, 2, 1), 1);
    due("quarter", t.meet(0, 1, 0), 3);
    due("how many", t.meet(1, 0, 1), 2);
    due("oneself", t.meet(0, 0, 0), NONE);
    due("nobody", t.meet(0, 3, 0), NONE);
    due("nobody", t.meet(-1, 0, 0), NONE);
    due("what", t.meet(0, 1, 2), NONE);
    due("what", t.meet(0, 1, -1), NONE);
    t = in("town 5 1;bridge 0 1;bridge 1 2;bridge 2 3;bridge 3 4;person 0;person 4");
    due("the lesser greater way", t.meet(0, 1, 0), 2);
    due("how many", t.meet(0, 1, 1), 4);
    t = in("town 3 1;person 0;person 1;person 0");
    due("can't", t.meet(0, 1, 0), -2);
    due("can't", t.meet(0, 1, 1), -2);
    due("there already", t.meet(2, 0, 0), 0);
    due("there already", t.meet(2, 0, 1), 0);
  }

  // ---- promises 21 and 22
  private static void bestAndAlone() {
    about("best and alone");
    ThriceBridge t = in(RIVER);
    due("bridge", t.best(0), 2);
    due("how many", t.best(1), 3);
    due("who", t.best(2), 2);
    due("what", t.best(3), NONE);
    due("what", t.best(-1), NONE);
    due("alone", t.alone(), 0);
    t.rebuild(2);
    due("by none", t.best(0), -2);
    due("by none", t.best(1), 0);
    due("by none", t.best(2), 0);
    t = in("town 4 1;bridge 0 1;bridge 0 2;bridge 1 3;person 0;person 0;crossed 0 0 1;crossed 1 0 1;crossed 0 1 1;crossed 1 1 1");
    due("most together", t.best(0), 0);
    due("how many", t.best(1), 4);
    due("who", t.best(2), 3);
    t = in("town 3 1;bridge 0 1;bridge 0 2;person 0;crossed 0 0 1;crossed 0 1 1");
    due("of several the least", t.best(0), 0);
    due("alone", t.alone(), 1);
    t = in("town 3 1;bridge 0 1;person 0;person 2;person 1");
    due("alone", t.alone(), 2);
    t = in("town 2 1;bridge 0 1;person 0;person 1;crossed 0 0 1");
    due("alone, whom one may reach, but not the other", t.alone(), 2);
    t = in("town 2 1;person 0;person 0");
    due("nobody is alone", t.alone(), 0);
    t = in("town 2 1");
    due("nobody at all", t.alone(), 0);
    due("nobody at all", t.best(0), -2);
  }

  // ---- promise 23
  private static void letters() {
    about("letter");
    ThriceBridge t = in("town 5 1;bridge 0 1;bridge 1 2;bridge 2 3;bridge 3 4;person 0;person 2;person 2;person 4;"
        + "crossed 0 1 1;crossed 1 2 1;crossed 2 1 1;crossed 3 2 1");
    due("two hands", t.letter(0, 3, 0), 2);
    due("first", t.letter(0, 3, 1), 1);
    due("second", t.letter(0, 3, 2), 2);
    due("back", t.letter(3, 0, 1), 2);
    due("back", t.letter(3, 0, 2), 1);
    due("one hand", t.letter(0, 2, 0), 1);
    due("first", t.letter(0, 2, 1), 1);
    due("no second", t.letter(0, 2, 2), -2);
    due("none", t.letter(0, 1, 0), 0);
    due("no first", t.letter(0, 1, 1), -2);
    due("oneself", t.letter(0, 0, 0), NONE);
    due("nobody", t.letter(0, 4, 0), NONE);
    due("nobody", t.letter(-1, 0, 0), NONE);
    due("what", t.letter(0, 1, 3), NONE);
    due("what", t.letter(0, 1, -1), NONE);
    t = in("town 4 1;bridge 0 1;bridge 0 2;person 1;person 0;person 0;person 2;crossed 0 0 1;crossed 3 1 1");
    due("by either", t.letter(0, 3, 0), 1);
    due("the first of them", t.letter(0, 3, 1), 1);
    due("the first of them", t.letter(3, 0, 1), 1);
    t = in("town 4 1;person 1;person 0");
    due("can't", t.letter(0, 1, 0), -2);
    due("can't", t.letter(0, 1, 1), -2);
  }

  // ---- promise 24
  private static void story(ThriceBridge t, int many, int bits, int last) {
    due("came 0", t.came(0, 0), many);
    due("came 1", t.came(0, 1), bits);
    due("came 2", t.came(0, 2), last);
  }

  private static void stories() {
    about("came");
    ThriceBridge t = in("town 2 5;bridge 0 1;bridge 0 1;ferry 0 1;person 0;crossed 0 0 2");
    story(t, 1, 0, -2);
    due("nobody", t.came(1, 0), NONE);
    due("nobody", t.came(-1, 0), NONE);
    due("what", t.came(0, 3), NONE);
    due("what", t.came(0, -1), NONE);
    t.cross(0, 0);
    t.cross(0, 1);
    t.cross(0, 0);
    story(t, 3, 3, 1);
    t.rebuild(0);
    story(t, 1, 2, 1);
    t.sail(0, 0);
    story(t, 0, 0, -2);
    t.undo();
    t.undo();
    story(t, 3, 3, 1);
    town(t, "town 2 5;bridge 0 1;bridge 0 1;ferry 0 1;person 0");
    t.sail(0, 0);
    story(t, 0, 0, -2);
    t.sail(0, 0);
    for (int i = 0; i < 8; i++) t.cross(0, i % 2);
    story(t, 70, 3, 1);
    t.cross(0, 0);
    story(t, -3, -3, -3);
    due("what comes first", t.came(0, 3), NONE);
    due("rebuild", t.rebuild(0), 5);
    story(t, 0, 0, -2);
    t = in("town 3 1;bridge 0 1;bridge 1 2;bridge 2 0;bridge 1 0;person 0");
    t.cross(0, 0);
    t.cross(0, 1);
    t.cross(0, 2);
    story(t, 2, 5, 2);
    t.cross(0, 3);
    story(t, 6, 11, 3);
    t = in("town 2 1" + times(";bridge 0 1", 8) + ";person 0");
    for (int i = 0; i < 8; i++) t.cross(0, i);
    story(t, 40320, 255, 7);
  }

  // ---- promise 25
  private static void trails() {
    about("trail");
    ThriceBridge t = in("town 4 1;bridge 0 3;bridge 0 1;bridge 1 2;person 0;person 3;crossed 1 0 1");
    due("how many", t.trail(0, 0), 2);
    due("where", t.trail(0, 1), 2);
    due("none", t.trail(1, 0), 0);
    due("there", t.trail(1, 1), 3);
    due("nobody", t.trail(2, 0), NONE);
    due("nobody", t.trail(-1, 0), NONE);
    due("what", t.trail(0, 2), NONE);
    due("what", t.trail(0, -1), NONE);
    t = in("town 4 1;bridge 0 2;bridge 0 1;person 0");
    due("of several the first", t.trail(0, 1), 2);
    t = in("town 2 5;bridge 0 1;bridge 0 1;person 0");
    due("eight", t.trail(0, 0), 8);
    due("where", t.trail(0, 1), 0);
    t = in("town 2 3;bridge 0 1;bridge 0 1;person 0;crossed 0 0 1;crossed 0 1 0");
    due("five", t.trail(0, 0), 5);
    due("where", t.trail(0, 1), 1);
    due("nothing changed", t.left(0, 0), 2);
    t = in("town 3 4;bridge 0 1;bridge 1 2;bridge 0 2;person 0");
    due("eight of twelve", t.trail(0, 0), 8);
    due("the first of them: 0 0 0 0 2 1 1 1", t.trail(0, 1), 1);
  }

  // ---- promises 26 and 27
  private static void drawnLives() {
    about("seed and lives");
    ThriceBridge t = in("town 2 5;bridge 0 1;person 0;want 0 1 0 7");
    due("a day", t.lives(1, 1, 0), 1);
    due("its pay", t.lives(1, 1, 1), 7);
    due("five days", t.lives(1, 5, 0), 4);
    due("ten days", t.lives(1, 10, 0), 5);
    due("two lives", t.lives(2, 2, 0), 3);
    due("their pay", t.lives(2, 2, 1), 14);
    due("three lives", t.lives(3, 1, 1), 21);
    due("x stays", t.count(12), 0);
    due("day stays", t.count(7), 0);
    due("quarter stays", t.person(0, 0), 0);
    due("pay stays", t.person(0, 2), 0);
    due("left stays", t.left(0, 0), 5);
    due("acts", t.count(11), 0);
    due("seed", t.seed(654583775), 0);
    due("none", t.lives(1, 1, 0), 0);
    due("none", t.lives(1, 1, 1), 0);
    due("seed", t.seed(-1), NONE);
    due("seed", t.seed(Integer.MIN_VALUE), NONE);
    due("x", t.count(12), 654583775);
    due("seed", t.seed(Integer.MAX_VALUE), 654583775);
    due("seed", t.seed(0), Integer.MAX_VALUE);
    due("no lives", t.lives(0, 1, 0), NONE);
    due("lives", t.lives(11, 1, 0), NONE);
    due("no days", t.lives(1, 0, 0), NONE);
    due("days", t.lives(1, 61, 0), NONE);
    due("what", t.lives(1, 1, 2), NONE);
    due("what", t.lives(1, 1, -1), NONE);
    due("all of them", t.lives(10, 60, 0), 50);
    t.cross(0, 0);
    t.day();
    due("from now on", t.lives(1, 5, 1), 0);
    due("from now on", t.lives(1, 60, 0), 4);
    t = in("town 2 5;bridge 0 1;bridge 0 1;person 0;person 0");
    due("by numbers", t.lives(1, 5, 0), 9);
    t = in("town 2 5;person 0;want 0 0 0 3");
    due("without bridges", t.lives(10, 60, 0), 0);
    due("without bridges", t.lives(10, 60, 1), 30);
  }

  // ---- promise 28
  private static void counts() {
    about("count");
    ThriceBridge t = in(RIVER);
    int[] want = {4, 3, 4, 1, 3, 4, 0, 0, 0, 0, 7, 0, 0, 0};
    for (int what = 0; what < want.length; what++) due("count " + what, t.count(what), want[what]);
    due("what", t.count(14), NONE);
    due("what", t.count(-1), NONE);
    rule(t, "cross 1");
    t.cross(0, 3);
    t.day();
    t.day();
    t.seed(9);
    t.feed(0, 0, 0, 0, 0);
    int[] then = {4, 3, 4, 1, 3, 4, 1, 2, 1, 10, 6, 3, 9, 20};
    for (int what = 0; what < then.length; what++) due("count " + what, t.count(what), then[what]);
  }

  // ---- promises 29 and 30
  private static void images() {
    about("image and back");
    ThriceBridge t = new ThriceBridge();
    due("without a town", t.image(3), 0);
    due("no image", t.image(4), NONE);
    due("no image", t.image(-1), NONE);
    due("never made", t.back(0), NONE);
    due("no image", t.back(4), NONE);
    due("no image", t.back(-1), NONE);
    town(t, RIVER);
    t.seed(5);
    t.cross(0, 3);
    t.day();
    due("image", t.image(0), 1);
    due("acts", t.count(11), 2);
    due("day", t.day(), 10);
    t.rebuild(2);
    t.cross(0, 2);
    t.seed(6);
    due("image", t.image(1), 2);
    rule(t, "cross 1");
    t.feed(0, 0, 0, 0, 0);
    due("back", t.back(0), 1);
    due("nothing can be undone", t.undo(), NONE);
    due("day", t.count(7), 1);
    due("x", t.count(12), 5);
    due("rules stay", t.count(6), 1);
    due("the tape stays", t.count(13), 20);
    due("pay", t.count(9), 0);
    due("quarter", t.person(0, 0), 2);
    due("left", t.left(1, 2), 0);
    due("came", t.came(0, 2), 3);
    t.cross(0, 1);
    due("images don't change", t.back(0), 1);
    due("quarter", t.person(0, 0), 2);
    town(t, "town 2 1;person 1");
    due("another town", t.count(0), 2);
    due("back", t.back(1), 2);
    due("the town of then", t.count(0), 4);
    due("bridge", t.bridge(3, 1), 2);
    due("pay", t.person(0, 2), 10);
    due("left", t.left(1, 2), 3);
    due("x", t.count(12), 6);
    due("back to no town", t.back(3), 0);
    due("no quarters", t.count(0), 0);
    due("nobody", t.person(0, 0), NONE);
    due("day", t.day(), NONE);
    due("x", t.count(12), 0);
    due("image anew", t.image(0), 0);
    due("back", t.back(0), 0);
    due("no quarters", t.count(0), 0);
    due("the other stays", t.back(1), 2);
  }
}
