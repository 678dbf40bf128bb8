/** The boundary cases that the document names for acts, days, rules obeyed, draws and images: a method a sentence. */
public final class BoundaryActsTest extends Checks {
  private static final int[] NO_NUMBERS = {-1, -2, LEAST, GREATEST};

  public static void main(String[] args) {
    newObject();
    newObjectRefuses();
    personWithoutThese();
    leftWithoutThese();
    bridgeWithoutThese();
    everybodySoManyTimes();
    crossWithoutThese();
    sailBothWays();
    sailInFrost();
    sailWithoutThese();
    carriedAsleep();
    carryWithoutThese();
    rebuiltForgets();
    rebuildWithoutThat();
    dayEarns();
    noDayBehindTheLast();
    undoTheLastTwenty();
    undoNone();
    undoWhatActsDid();

    runDays();
    runWithoutThese();
    runPastTheLastDay();
    runCannotBeUndone();
    ruleChooses();
    ruleWithoutClause();
    ruleWords();
    nextWant();
    nearerAndFar();
    divisionByNought();
    goesRound();
    testsHold();

    seedBelowNought();
    countForOthers();
    counts();
    fourImages();
    imageWithoutIt();
    backWithoutIt();
    backToAnImage();
    fullLife();
    finish();
  }

  /** Four quarters; person 1 is shut in, person 0 has acted twice; a rule, an image, an x, a town on the tape. */
  private static ThriceBridge river() {
    ThriceBridge t = in("town 4 3;bridge 0 1;bridge 1 2;bridge 2 3;bridge 0 2;ferry 1 3;frost 2 4;person 0;person 3;person 1;"
        + "crossed 0 0 2;crossed 1 2 3;want 0 2 1 10;want 0 1 3 5;want 1 3 0 8;want 2 0 2 6");
    rule(t, "cross nearer * 5 + 1 if nearer >= 0");
    t.seed(5);
    t.image(1);
    t.seed(77);
    t.cross(0, 0);
    t.day();
    return feed(t, "town 2 1;person 1");
  }

  private static void refused(String call, Call made) { changesNothing(call, BoundaryActsTest::river, made, NONE); }

  // ---- promise 1

  private static void newObject() {
    about("A new object: No TOWN, no RULES");
    ThriceBridge t = new ThriceBridge();
    for (int what = 0; what <= 13; what++) due("count " + what, t.count(what), 0);
    due("the first rule", rule(t, "cross 1"), 0);
    due("the first town", town(t, "town 2 1"), 0);
  }

  private static void newObjectRefuses() {
    about("without a TOWN");
    Start made = () -> { ThriceBridge t = new ThriceBridge(); rule(t, "cross 1"); return t; };
    changesNothing("person", made, t -> t.person(0, 0), NONE);
    changesNothing("left", made, t -> t.left(0, 0), NONE);
    changesNothing("bridge", made, t -> t.bridge(0, 0), NONE);
    changesNothing("cross", made, t -> t.cross(0, 0), NONE);
    changesNothing("sail", made, t -> t.sail(0, 0), NONE);
    changesNothing("carry", made, t -> t.carry(0, 1, 0), NONE);
    changesNothing("rebuild", made, t -> t.rebuild(0), NONE);
    changesNothing("day", made, t -> t.day(), NONE);
    changesNothing("undo", made, t -> t.undo(), NONE);
    changesNothing("run", made, t -> t.run(0, 1), NONE);
    changesNothing("way", made, t -> t.way(0, 0, 0), -3);
    changesNothing("life", made, t -> t.life(0, 1, 0), -3);
    changesNothing("worth", made, t -> t.worth(0, 0, 1), NONE);
    changesNothing("more", made, t -> t.more(0, 1), NONE);
    changesNothing("meet", made, t -> t.meet(0, 1, 0), NONE);
    for (int what = 0; what <= 2; what++) {
      int asked = what;
      changesNothing("best", made, t -> t.best(asked), NONE);
      changesNothing("came", made, t -> t.came(0, asked), NONE);
      changesNothing("letter", made, t -> t.letter(0, 1, asked), NONE);
      changesNothing("trail", made, t -> t.trail(0, asked), NONE);
      changesNothing("lives", made, t -> t.lives(1, 1, asked), NONE);
    }
    changesNothing("alone", made, t -> t.alone(), NONE);
    changesNothing("back", made, t -> t.back(0), NONE);
  }

  // ---- promises 6 to 8

  private static void personWithoutThese() {
    about("person: NONE without these");
    for (int no : NO_NUMBERS) {
      refused("nobody", t -> t.person(no, 0));
      refused("what", t -> t.person(0, no));
    }
    for (int what = 0; what <= 5; what++) {
      int asked = what;
      refused("nobody", t -> t.person(3, asked));
      due("the last person", river().person(2, what) >= 0 ? 1 : 0, 1);
    }
    refused("what", t -> t.person(0, 6));
    about("person: Of a PERSON what 0: QUARTER .. 5: the goal");
    int[][] want = {{1, 0, 0, 15, 1, 2}, {3, 3, 8, 8, 4, 3}, {1, 1, 0, 15, 0, 0}};
    ThriceBridge t = river();
    for (int person = 0; person < 3; person++) {
      for (int what = 0; what <= 5; what++) due("person " + person + ", " + what, t.person(person, what), want[person][what]);
    }
  }

  private static void leftWithoutThese() {
    about("left: NONE without these");
    for (int no : NO_NUMBERS) {
      refused("nobody", t -> t.left(no, 0));
      refused("no bridge", t -> t.left(0, no));
    }
    refused("nobody", t -> t.left(3, 0));
    refused("no bridge", t -> t.left(0, 4));
    due("the last of both", river().left(2, 3), 3);
    due("nobody in the town", in("town 2 1;bridge 0 1").left(0, 0), NONE);
    due("no bridge in the town", in("town 2 1;person 0").left(0, 0), NONE);
  }

  private static void bridgeWithoutThese() {
    about("bridge: NONE without these");
    for (int no : NO_NUMBERS) {
      refused("no bridge", t -> t.bridge(no, 0));
      refused("what", t -> t.bridge(0, no));
    }
    refused("no bridge", t -> t.bridge(4, 0));
    refused("what", t -> t.bridge(0, 3));
    ThriceBridge t = river();
    due("first of the last", t.bridge(3, 0), 0);
    due("second of the last", t.bridge(3, 1), 2);
    about("bridge: how often it was crossed by all (as it remembers)");
    due("told and crossed", t.bridge(0, 2), 3);
    due("told", t.bridge(2, 2), 3);
    due("never", t.bridge(3, 2), 0);
    due("by another", t.cross(2, 0), 0);
    due("by all", t.bridge(0, 2), 4);
    due("without people", in("town 2 1;bridge 0 1").bridge(0, 2), 0);
  }

  // ---- promise 9

  private static void everybodySoManyTimes() {
    about("CROSS (a BRIDGE of their QUARTER with LEFT); LEFT: TIMES less how often they crossed it");
    for (int times = 1; times <= 5; times++) {
      ThriceBridge t = in("town 2 " + times + ";bridge 1 0;person 0;person 1");
      for (int i = 0; i < times; i++) {
        due("left", t.left(0, 0), times - i);
        due("cross " + i, t.cross(0, 0), 1 - i % 2);
      }
      due("no more", t.cross(0, 0), NONE);
      due("left", t.left(0, 0), 0);
      due("crossings can be undone", t.count(11), times);
      due("to another all are left", t.left(1, 0), times);
      due("another crosses", t.cross(1, 0), 0);
      due("crossed by all", t.bridge(0, 2), times + 1);
    }
    ThriceBridge t = in("town 3 2;bridge 0 1;person 0;person 2;crossed 0 0 1");
    due("once more than told", t.cross(0, 0), 1);
    due("and no more", t.cross(0, 0), NONE);
    due("from another quarter", t.cross(1, 0), NONE);
  }

  private static void crossWithoutThese() {
    about("cross: NONE, and nothing happens, without these");
    for (int no : NO_NUMBERS) {
      refused("nobody", t -> t.cross(no, 0));
      refused("no bridge", t -> t.cross(0, no));
    }
    refused("nobody", t -> t.cross(3, 0));
    refused("no bridge", t -> t.cross(0, 4));
    refused("a bridge of other quarters", t -> t.cross(0, 2));
    refused("nothing left", t -> t.cross(0, 0));
    refused("nothing left", t -> t.cross(1, 2));
  }

  // ---- promise 10

  private static void sailBothWays() {
    about("SAIL (a FERRY of their QUARTER; it counts nothing)");
    ThriceBridge t = in("town 3 1;bridge 0 1;ferry 0 1;ferry 1 2;person 0");
    for (int i = 0; i < 8; i++) due("sail", t.sail(0, 0), 1 - i % 2);
    due("left", t.left(0, 0), 1);
    due("crossed", t.bridge(0, 2), 0);
    due("not there", t.sail(0, 1), NONE);
    due("it can be undone", t.undo(), 7);
    due("back", t.person(0, 0), 1);
    due("there", t.sail(0, 1), 2);
    due("not there any more", t.sail(0, 0), NONE);
    t = in("town 3 1;ferry 1 2;person 0;person 1;person 1");
    due("another one sails", t.sail(1, 0), 2);
    int[] quarters = {0, 2, 1};
    for (int person = 0; person < 3; person++) due("quarter of " + person, t.person(person, 0), quarters[person]);
  }

  private static void sailInFrost() {
    about("SAIL: not on a DAY of FROST");
    ThriceBridge t = in("town 2 1;ferry 0 1;frost 2 3;frost 5 5;frost 3 3;person 0");
    int frosty = 0b101100;
    int quarter = 0;
    for (int day = 0; day < 8; day++) {
      boolean frost = (frosty >> day & 1) != 0;
      if (!frost) quarter = 1 - quarter;
      due("frost on day " + day, t.count(8), frost ? 1 : 0);
      due("sail on day " + day, t.sail(0, 0), frost ? NONE : quarter);
      due("quarter on day " + day, t.person(0, 0), quarter);
      t.day();
    }
    t = in("town 2 1;ferry 0 1;frost 0 0;frost 99 99;person 0");
    rule(t, "cross 0");
    due("day 0", t.sail(0, 0), NONE);
    t.run(0, 60);
    t.run(0, 38);
    due("day 98", t.sail(0, 0), 1);
    t.day();
    due("day 99", t.sail(0, 0), NONE);
    due("frost", t.count(8), 1);
    t.day();
    due("day 100", t.sail(0, 0), 0);
    due("frost", t.count(8), 0);
    t = in("town 2 2;bridge 0 1;ferry 0 1;frost 0 99;person 0;person 0");
    due("bridges are open in frost", t.carry(0, 1, 0), 1);
    due("bridges are open in frost", t.cross(0, 0), 0);
  }

  private static void sailWithoutThese() {
    about("sail: NONE, and nothing happens, without these");
    for (int no : NO_NUMBERS) {
      refused("nobody", t -> t.sail(no, 0));
      refused("no ferry", t -> t.sail(1, no));
    }
    refused("nobody", t -> t.sail(3, 0));
    refused("no ferry", t -> t.sail(1, 1));
    due("not there", in("town 3 1;ferry 0 1;person 2").sail(0, 0), NONE);
    due("no ferry", in("town 3 1;bridge 0 1;person 0").sail(0, 0), NONE);
    changesNothing("frost", () -> { ThriceBridge t = river(); t.day(); return t; }, t -> t.sail(1, 0), NONE);
  }

  // ---- promise 11

  private static void carriedAsleep() {
    about("CARRY (a PERSON crosses, and another one of that QUARTER with them, asleep: that one's crossing is not counted)");
    ThriceBridge t = in("town 2 1;bridge 0 1;bridge 0 1;person 0;person 0;person 0;crossed 1 0 1");
    due("who could not cross", t.carry(0, 1, 0), 1);
    due("who crosses is there", t.person(0, 0), 1);
    due("who sleeps is there", t.person(1, 0), 1);
    due("another one stays", t.person(2, 0), 0);
    due("counted", t.left(0, 0), 0);
    due("not counted", t.left(1, 0), 0);
    due("crossed by all", t.bridge(0, 2), 2);
    due("who has nothing left can't carry", t.carry(1, 0, 0), NONE);
    due("nor who has nothing left by now", t.carry(0, 1, 0), NONE);
    due("by another bridge", t.carry(1, 0, 1), 0);
    due("not counted", t.left(0, 1), 1);
    due("not asked", t.came(0, 0), 0);
    due("undone", t.undo(), 1);
    due("who crossed is back", t.person(1, 0), 1);
    due("who slept is back", t.person(0, 0), 1);
    due("left", t.left(1, 1), 1);
    t = in("town 4 1;bridge 1 2;person 0;person 3;person 1;person 1");
    due("the last one carries", t.carry(3, 2, 0), 2);
    int[] quarters = {0, 3, 2, 2};
    for (int person = 0; person < 4; person++) due("quarter of " + person, t.person(person, 0), quarters[person]);
    due("counted", t.left(3, 0), 0);
    due("not counted", t.left(2, 0), 1);
  }

  private static ThriceBridge together() {
    ThriceBridge t = in("town 3 1;bridge 0 1;bridge 1 2;bridge 0 1;person 0;person 0;person 1;crossed 0 2 1");
    rule(t, "cross 1");
    t.image(1);
    t.day();
    return feed(t, "town 2 1;person 1");
  }

  private static void carryWithoutThese() {
    about("carry: NONE, and nothing happens, without these (another one)");
    Start start = BoundaryActsTest::together;
    for (int no : NO_NUMBERS) {
      changesNothing("nobody", start, t -> t.carry(no, 1, 0), NONE);
      changesNothing("nobody asleep", start, t -> t.carry(0, no, 0), NONE);
      changesNothing("nobody twice", start, t -> t.carry(no, no, 0), NONE);
      changesNothing("no bridge", start, t -> t.carry(0, 1, no), NONE);
    }
    changesNothing("nobody", start, t -> t.carry(3, 0, 0), NONE);
    changesNothing("nobody asleep", start, t -> t.carry(0, 3, 0), NONE);
    changesNothing("no bridge", start, t -> t.carry(0, 1, 3), NONE);
    changesNothing("oneself", start, t -> t.carry(0, 0, 0), NONE);
    changesNothing("one of another quarter", start, t -> t.carry(0, 2, 0), NONE);
    changesNothing("one of the other quarter carries", start, t -> t.carry(2, 0, 0), NONE);
    changesNothing("a bridge of other quarters", start, t -> t.carry(0, 1, 1), NONE);
    changesNothing("nothing left", start, t -> t.carry(0, 1, 2), NONE);
    due("but with left", together().carry(1, 0, 2), 1);
    due("as far as one can", together().carry(0, 1, 0), 1);
  }

  // ---- promise 12

  private static void rebuiltForgets() {
    about("REBUILD (a BRIDGE forgets: nobody crossed it, if somebody did): how often it was crossed by all");
    ThriceBridge t = in("town 2 2;bridge 0 1;bridge 0 1;person 0;person 1;person 0;person 1;crossed 0 0 2;crossed 3 0 1;crossed 0 1 2");
    t.cross(1, 0);
    due("as told and as crossed", t.rebuild(0), 4);
    for (int person = 0; person < 4; person++) due("left", t.left(person, 0), 2);
    due("of another bridge", t.left(0, 1), 0);
    due("crossed by all", t.bridge(0, 2), 0);
    due("where they are they stay", t.person(1, 0), 0);
    due("not crossed since", t.came(1, 0), 0);
    due("it is an act", t.count(11), 2);
    due("undone", t.undo(), 1);
    due("crossed by all", t.bridge(0, 2), 4);
    due("came", t.came(1, 0), 1);
    due("just as told", t.undo(), 0);
    due("rebuild", t.rebuild(0), 3);
  }

  private static void rebuildWithoutThat() {
    about("rebuild: NONE, and nothing happens, without that BRIDGE, or if it was not crossed");
    for (int no : NO_NUMBERS) refused("no bridge", t -> t.rebuild(no));
    refused("no bridge", t -> t.rebuild(4));
    refused("not crossed", t -> t.rebuild(1));
    refused("not crossed", t -> t.rebuild(3));
    ThriceBridge t = river();
    due("crossed", t.rebuild(0), 3);
    due("not crossed any more", t.rebuild(0), NONE);
    due("one act", t.count(11), 3);
    t = in("town 2 1;bridge 0 1;person 0;person 0;crossed 0 0 0");
    due("told as not crossed", t.rebuild(0), NONE);
    t.cross(1, 0);
    due("crossed once", t.rebuild(0), 1);
  }

  // ---- promise 13

  private static void dayEarns() {
    about("a DAY: each WANT of this DAY whose PERSON is in its QUARTER is met; DAY is 1 more");
    ThriceBridge t = in("town 3 5;bridge 0 1;person 0;person 0;want 0 0 0 1;want 0 0 0 2;want 0 1 0 4;want 1 0 0 8;want 0 0 1 16;"
        + "want 1 1 1 32;want 0 0 2 50;want 1 0 99 50");
    due("day 0", t.day(), 11);
    due("of one", t.person(0, 2), 3);
    due("of another", t.person(1, 2), 8);
    t.cross(1, 0);
    due("day 1", t.day(), 48);
    due("of one", t.person(0, 2), 19);
    due("of another", t.person(1, 2), 40);
    t.cross(0, 0);
    due("day 2", t.day(), 0);
    due("a day that is over", t.day(), 0);
    due("all", t.count(9), 59);
    due("day", t.count(7), 4);
    about("a DAY: WANTS of DAY 99, and none behind");
    t = in("town 2 1;person 0;want 0 0 98 3;want 0 0 99 7");
    rule(t, "cross 0");
    due("60 days", t.run(0, 60), 0);
    due("38 days", t.run(0, 38), 0);
    due("day 98", t.day(), 3);
    due("day 99", t.day(), 7);
    due("day 100", t.day(), 0);
    due("without people", in("town 2 1").day(), 0);
  }

  /** A town on the last days, none of which can be undone. */
  private static ThriceBridge late(int day) {
    ThriceBridge t = in("town 2 3;bridge 0 1;person 0;want 0 0 0 5");
    rule(t, "cross 0");
    for (int i = 0; i < 16; i++) t.run(0, 60);
    if (day > 960) t.run(0, day - 960);
    t.image(1);
    return feed(t, "town 2 1;person 1");
  }

  private static void noDayBehindTheLast() {
    about("day: NONE, and nothing happens, on DAY 999");
    ThriceBridge t = late(998);
    due("on 998", t.day(), 0);
    due("day", t.count(7), 999);
    due("on 999", t.day(), NONE);
    due("day", t.count(7), 999);
    due("only the first can be undone", t.undo(), 0);
    due("day", t.count(7), 998);
    due("once more", t.day(), 0);
    changesNothing("on 999", () -> late(999), x -> x.day(), NONE);
    t = late(999);
    due("acts go on", t.cross(0, 0), 1);
    due("an act", t.count(11), 1);
  }

  // ---- promise 14

  private static void undoTheLastTwenty() {
    about("The last 20 can be UNDONE, the last first: how many more can be");
    for (int acts : new int[] {1, 19, 20, 21, 39, 40, 41, 60}) {
      ThriceBridge t = in("town 2 1;person 0");
      for (int i = 0; i < acts; i++) t.day();
      int kept = Math.min(acts, 20);
      due("can be undone", t.count(11), kept);
      for (int i = 1; i <= kept; i++) {
        due("undo " + i + " of " + acts, t.undo(), kept - i);
        due("day", t.count(7), acts - i);
      }
      due("no more", t.undo(), NONE);
      due("day", t.count(7), acts - kept);
      t.day();
      due("one again", t.count(11), 1);
      due("undo", t.undo(), 0);
      due("day", t.count(7), acts - kept);
    }
    ThriceBridge t = in("town 2 1;person 0");
    for (int i = 0; i < 25; i++) t.day();
    for (int i = 0; i < 7; i++) t.undo();
    for (int i = 0; i < 9; i++) t.day();
    due("the oldest are gone", t.count(11), 20);
    due("day", t.count(7), 27);
    for (int i = 19; i >= 0; i--) t.undo();
    due("day", t.count(7), 7);
  }

  private static void undoNone() {
    about("undo: NONE, and nothing happens: none can");
    Start told = () -> { ThriceBridge t = in("town 2 1;bridge 0 1;person 0;crossed 0 0 1"); rule(t, "cross 0"); t.image(1); return t; };
    changesNothing("none done", told, t -> t.undo(), NONE);
    changesNothing("none done but refused ones", told, t -> { t.cross(0, 0); return t.undo(); }, NONE);
    changesNothing("a seed is no act", told, t -> { t.seed(0); return t.undo(); }, NONE);
    changesNothing("none left", told, t -> { t.day(); t.undo(); return t.undo(); }, NONE);
  }

  private static void undoWhatActsDid() {
    about("The last ACT is UNDONE: all is as ahead of it");
    Call[] acts = {t -> t.cross(2, 1), t -> t.sail(1, 0), t -> t.carry(0, 2, 1), t -> t.rebuild(0), t -> t.day()};
    for (int i = 0; i < acts.length; i++) {
      ThriceBridge t = river();
      due("act " + i + " is done", acts[i].on(t) == NONE ? 0 : 1, 1);
      due("act " + i + " is undone", t.undo(), 2);
      sameAs("act " + i, river(), t);
    }
    ThriceBridge t = river();
    t.day();
    t.seed(123);
    t.undo();
    due("x is not undone", t.count(12), 123);
  }

  // ---- promise 15

  private static void runDays() {
    about("BY A RULE n DAYS (1 to 60): PAY earned in them");
    ThriceBridge t = in("town 2 5;bridge 0 1;person 0;want 0 0 0 1;want 0 0 58 2;want 0 0 59 4;want 0 0 60 8");
    rule(t, "cross 0");
    due("one day", t.run(0, 1), 1);
    due("day", t.count(7), 1);
    due("59 days", t.run(0, 59), 6);
    due("day", t.count(7), 60);
    due("sixty days", t.run(0, 60), 8);
    due("day", t.count(7), 120);
    due("all", t.person(0, 2), 15);
    t = in("town 2 5;bridge 0 1;person 0;want 0 1 0 1;want 0 0 1 2;want 0 1 2 4;want 0 1 5 8");
    rule(t, "cross 1");
    due("one crossing a day", t.run(0, 4), 7);
    due("left", t.left(0, 0), 1);
    due("the fifth, and no more", t.run(0, 60), 8);
    due("left", t.left(0, 0), 0);
    due("crossings are counted", t.came(0, 0), 1);
  }

  private static void runWithoutThese() {
    about("run: NONE, and nothing happens, without these (no TOWN)");
    for (int no : NO_NUMBERS) {
      refused("no rule", t -> t.run(no, 1));
      refused("no days", t -> t.run(0, no));
    }
    refused("no rule", t -> t.run(1, 1));
    refused("no day", t -> t.run(0, 0));
    refused("61 days", t -> t.run(0, 61));
    Start untold = () -> { ThriceBridge t = new ThriceBridge(); rule(t, "cross 1"); return t; };
    changesNothing("no town", untold, t -> t.run(0, 1), NONE);
    ThriceBridge t = in("town 2 1");
    rule(t, "cross 1");
    due("without people", t.run(0, 1), 0);
    due("a day went by", t.count(7), 1);
  }

  private static void runPastTheLastDay() {
    about("run: NONE, and nothing happens, if DAY would be above 999");
    changesNothing("40 days from 960 on", () -> late(960), t -> t.run(0, 40), NONE);
    changesNothing("one day from 999 on", () -> late(999), t -> t.run(0, 1), NONE);
    changesNothing("two days from 998 on", () -> late(998), t -> t.run(0, 2), NONE);
    changesNothing("60 days from 999 on", () -> late(999), t -> t.run(0, 60), NONE);
    ThriceBridge t = late(960);
    due("just as far", t.run(0, 39), 0);
    due("day", t.count(7), 999);
  }

  private static void runCannotBeUndone() {
    about("(These can't be UNDONE: nothing that was done ahead of them can, either.)");
    ThriceBridge t = river();
    due("two acts", t.count(11), 2);
    t.run(0, 1);
    due("none", t.count(11), 0);
    due("undo", t.undo(), NONE);
    due("day", t.count(7), 2);
    t.day();
    due("what is done behind can", t.undo(), 0);
    due("day", t.count(7), 2);
  }

  private static ThriceBridge obeys(String town, String rule, int days) {
    ThriceBridge t = in(town);
    due(rule, rule(t, rule), 0);
    t.run(0, days);
    return t;
  }

  private static void ruleChooses() {
    about("each PERSON CROSSES the BRIDGE (of those they can) for which the SUM is greatest, if it is above 0; of several the first");
    String star = "town 5 1;bridge 1 0;bridge 0 2;bridge 3 0;bridge 3 4;bridge 0 4;person 0";
    due("of several the first", obeys(star, "cross 1", 1).person(0, 0), 1);
    due("the greatest", obeys(star, "cross bridge", 1).person(0, 0), 4);
    due("the greatest amid", obeys(star, "cross 5 - bridge if bridge > 1;cross 2", 1).person(0, 0), 3);
    due("above 0", obeys(star, "cross 0", 1).person(0, 0), 0);
    due("above 0", obeys(star, "cross 0 - 1", 1).person(0, 0), 0);
    due("just above 0", obeys(star, "cross to - 3", 1).person(0, 0), 4);
    due("not of other quarters", obeys(star, "cross 9 if bridge = 3", 1).person(0, 0), 0);
    due("not without left", obeys(star + ";crossed 0 0 1", "cross 1", 1).person(0, 0), 2);
    due("of several the first, behind a lesser", obeys(star, "cross 1 if bridge = 0;cross 2", 1).person(0, 0), 2);
    about("on each DAY, by numbers, each PERSON; then the DAY");
    String two = "town 3 3;bridge 0 1;bridge 1 2;person 0;person 1;want 0 1 0 5;want 1 1 0 7";
    ThriceBridge t = obeys(two, "cross people if person = 1;cross 1", 1);
    due("the second sees the first there", t.person(1, 0), 0);
    due("the first is there at the day's end", t.person(0, 2), 5);
    due("the second is not", t.person(1, 2), 0);
    t = obeys(two, "cross people if person = 0;cross 1", 1);
    due("the first does not see the second yet", t.person(0, 0), 0);
  }

  private static boolean crosses(String rule) { return obeys("town 2 2;bridge 0 1;person 0", rule, 1).person(0, 0) == 1; }
  private static void does(String rule) { due(rule + " crosses", crosses(rule) ? 1 : 0, 1); }
  private static void doesNot(String rule) { due(rule + " crosses", crosses(rule) ? 1 : 0, 0); }

  private static void ruleWithoutClause() {
    about("the SUM of the RULE's first CLAUSE without a TEST, or whose TEST holds (0 without)");
    does("cross 1;cross 0");
    doesNot("cross 0;cross 1");
    does("cross 1 if 1=1;cross 0");
    doesNot("cross 0 if 1=1;cross 1");
    does("cross 0 if 1=2;cross 1");
    doesNot("cross 1 if 1=2");
    doesNot("cross 1 if 1=2;cross 1 if 1=3");
    does("cross 0 if 1=2;cross 0 if 1=3;cross 1 if 1=1;cross 0");
  }

  // ---- the words of a rule

  /** The word is the number, for that person on that day; it is asked for by a rule of one day. */
  private static void word(String town, int days, int person, String word, String number) {
    ThriceBridge t = in(town);
    rule(t, "cross 0");
    rule(t, "cross 1 if person = " + person + " and " + word + " = " + number);
    for (int i = 0; i < days; i++) t.run(0, 1);
    int before = t.person(person, 0);
    t.run(1, 1);
    due(word + " of " + person + " on day " + days + " is " + number, t.person(person, 0) != before ? 1 : 0, 1);
  }

  private static void ruleWords() {
    about("WORDS of a PERSON and a BRIDGE");
    String town = "town 6 5;bridge 2 5;person 0;person 2;person 5;person 2;crossed 1 0 3;want 1 5 7 50;want 2 3 99 9";
    String[] words = {"person", "bridge", "from", "to", "home", "left", "day", "goal", "pay", "until", "nearer", "people"};
    String[] of1 = {"1", "0", "2", "5", "2", "2", "0", "5", "50", "7", "1", "1"};
    String[] of2 = {"2", "0", "5", "2", "5", "5", "0", "3", "9", "99", "99", "0"};
    String[] of3 = {"3", "0", "2", "5", "2", "5", "0", "2", "0", "0", "0-1", "1"};
    for (int i = 0; i < words.length; i++) {
      word(town, 0, 1, words[i], of1[i]);
      word(town, 0, 2, words[i], of2[i]);
      word(town, 0, 3, words[i], of3[i]);
    }
    word(town, 7, 1, "day", "7");
    word(town, 7, 1, "until", "0");
    word(town, 7, 1, "pay", "50");
    word(town, 8, 1, "until", "0");
    word(town, 8, 1, "pay", "0");
    word(town, 8, 1, "goal", "2");
    about("people (others in the QUARTER where they are)");
    String all = "town 2 1;bridge 0 1;person 0;person 0;person 0;person 0";
    word(all, 0, 0, "people", "3");
    word(all, 0, 3, "people", "3");
    word("town 2 1;bridge 0 1;person 0;person 1", 0, 0, "people", "0");
    about("left (how often it lets them over still)");
    for (int left = 1; left <= 5; left++) {
      word("town 2 5;bridge 0 1;person 0;crossed 0 0 " + (5 - left), 0, 0, "left", "" + left);
    }
  }

  private static void nextWant() {
    about("goal (their next WANT: that with the least DAY not below the DAY, of several the first told; their HOME without)");
    String town = "town 5 1;person 0;person 4;want 0 3 2 1;want 0 1 0 5;want 0 2 2 9;want 0 4 1 2";
    ThriceBridge t = in(town);
    due("the least day", t.person(0, 5), 1);
    due("without", t.person(1, 5), 4);
    t.day();
    due("on day 1", t.person(0, 5), 4);
    t.day();
    due("on day 2, of several the first told", t.person(0, 5), 3);
    t.day();
    due("without more", t.person(0, 5), 0);
    String bridged = town + ";bridge 0 1";
    word(bridged, 0, 0, "pay", "5");
    word(bridged, 0, 0, "until", "0");
    word(bridged, 1, 0, "pay", "2");
    word(bridged, 2, 0, "pay", "1");
    word(bridged, 3, 0, "pay", "0");
    t = in("town 5 1;person 0;want 0 2 99 5");
    rule(t, "cross 0");
    t.run(0, 60);
    t.run(0, 39);
    due("on day 99", t.person(0, 5), 2);
    t.day();
    due("on day 100", t.person(0, 5), 0);
  }

  private static void nearerAndFar() {
    about("nearer (all BRIDGES taken; can be below 0; 99 if no BRIDGES lead to the goal from here)");
    String row = "town 8 1;bridge 0 1;bridge 1 2;bridge 2 3;bridge 3 4;bridge 4 5;bridge 5 6;bridge 6 7;person 7;person 0;";
    word(row + "want 0 0 9 1", 0, 0, "nearer", "1");
    word(row + "want 0 7 9 1", 0, 0, "nearer", "0-1");
    word(row + "want 0 0 9 1;crossed 0 0 1;crossed 0 5 1", 0, 0, "nearer", "1");
    word("town 4 1;bridge 0 1;bridge 0 2;bridge 1 2;person 0;want 0 1 9 1;crossed 0 0 1", 0, 0, "nearer", "0");
    word("town 4 1;bridge 0 1;ferry 1 3;person 0;want 0 3 9 1", 0, 0, "nearer", "99");
    word("town 4 1;bridge 0 1;bridge 2 3;person 0;want 0 3 9 1", 0, 0, "nearer", "99");
    word("town 4 1;bridge 0 1;bridge 1 2;person 0", 0, 0, "nearer", "0-1");
    String ring = "town 8 1;bridge 0 1;bridge 1 2;bridge 2 3;bridge 3 4;bridge 4 5;bridge 5 6;bridge 6 7;bridge 7 0;person 0;";
    about("nearer: by how few BRIDGES it is, whichever was told first");
    String roundAbout = "town 4 1;bridge 0 1;bridge 1 2;bridge 2 3;bridge 3 0;bridge 2 0;person 0;want 0 2 9 1";
    word(roundAbout, 0, 0, "bridge = 0 and nearer", "0");
    word(roundAbout, 0, 0, "bridge = 3 and nearer", "0");
    word(roundAbout, 0, 0, "bridge = 4 and nearer", "1");
    due("either way round", obeys(ring + "want 0 4 9 1", "cross nearer", 4).person(0, 0), 4);
    due("the short way round", obeys(ring + "want 0 5 9 1", "cross nearer", 3).person(0, 0), 5);
  }

  // ---- reckoning

  private static void divisionByNought() {
    about("/ is towards 0, % its rest, both 0 by 0");
    does("cross 1 if 7/0=0");
    does("cross 1 if 7%0=0");
    does("cross 1 if 0/0=0");
    does("cross 1 if 0%0=0");
    does("cross 1 if 7/pay+7%pay+8=8");
    does("cross 1 if 5*7/0+3=3");
    does("cross 1 if 7/2=3");
    does("cross 1 if 7%2=1");
    does("cross 1 if nearer=0-1");
    does("cross 1 if nearer*7/2=0-3");
    does("cross 1 if nearer*7%2=0-1");
    does("cross 1 if 7/nearer=0-7");
    does("cross 1 if nearer*9%5=0-4");
    does("cross 1 if 9%nearer=0");
    does("cross 1 if 2/3=0");
    does("cross 1 if nearer*2/3=0");
  }

  private static void goesRound() {
    about("all goes round in 64 bits");
    String least = "65536*65536*65536*32768";
    doesNot("cross " + least);
    does("cross " + least + "-1");
    doesNot("cross " + least + "-1+1");
    does("cross 1 if " + least + "<0");
    does("cross 1 if 0-" + least + "=" + least);
    does("cross 1 if " + least + "+" + least + "=0");
    does("cross 1 if 65536*65536*65536*65536=0");
    does("cross 1 if " + least + "/nearer=" + least);
    does("cross 1 if " + least + "%nearer=0");
    does("cross 1 if 99999*99999*99999>0");
    does("cross 1 if 65536*32768>65536*32767");
    does("cross 1 if " + least + "-1>" + least);
  }

  private static void testsHold() {
    about("TEST: PART { or PART }; PART: FACT { and FACT }; SUM: TERM { (+ or -) TERM }");
    for (int a = 1; a <= 3; a++) {
      boolean[] holds = {a < 2, a <= 2, a == 2, a >= 2, a > 2};
      String[] signs = {"<", "<=", "=", ">=", ">"};
      for (int i = 0; i < signs.length; i++) {
        String fact = a + signs[i] + "2";
        due(fact, crosses("cross 1 if " + fact) ? 1 : 0, holds[i] ? 1 : 0);
        due("not " + fact, crosses("cross 1 if not " + fact) ? 1 : 0, holds[i] ? 0 : 1);
      }
    }
    for (int bits = 0; bits < 8; bits++) {
      boolean a = (bits & 1) != 0, b = (bits & 2) != 0, c = (bits & 4) != 0;
      String x = a ? "1=1" : "1=2", y = b ? " 1=1 " : " 1=2 ", z = c ? " 1=1" : " 1=2";
      due(x + " or" + y + "and" + z, crosses("cross 1 if " + x + " or" + y + "and" + z) ? 1 : 0, a || b && c ? 1 : 0);
      due(x + " and" + y + "or" + z, crosses("cross 1 if " + x + " and" + y + "or" + z) ? 1 : 0, a && b || c ? 1 : 0);
      due(x + " or" + y + "or" + z, crosses("cross 1 if " + x + " or" + y + "or" + z) ? 1 : 0, a || b || c ? 1 : 0);
      due(x + " and" + y + "and" + z, crosses("cross 1 if " + x + " and" + y + "and" + z) ? 1 : 0, a && b && c ? 1 : 0);
      due("[] " + x + y + z, crosses("cross 1 if [" + x + " or" + y + "]and" + z) ? 1 : 0, (a || b) && c ? 1 : 0);
      due("not " + x + y + z, crosses("cross 1 if not " + x + " and" + y + "or" + z) ? 1 : 0, !a && b || c ? 1 : 0);
      due(x + " and []" + y + z, crosses("cross 1 if " + x + " and [" + y + "or" + z + "]") ? 1 : 0, a && (b || c) ? 1 : 0);
      due(x + " or []" + y + z, crosses("cross 1 if " + x + " or [" + y + "and" + z + "]") ? 1 : 0, a || b && c ? 1 : 0);
      due("[] and []" + x + y + z, crosses("cross 1 if [" + x + "]and[" + y + "]and[" + z + "]") ? 1 : 0, a && b && c ? 1 : 0);
      due("[] or []" + x + y + z, crosses("cross 1 if [" + x + "]or[" + y + "]or[" + z + "]") ? 1 : 0, a || b || c ? 1 : 0);
      due("not [] " + x + y + z, crosses("cross 1 if not [" + x + " and" + y + "or" + z + "]") ? 1 : 0, a && b || c ? 0 : 1);
    }
    does("cross 1 if 10-2-3=5");
    does("cross 1 if 10-2+3=11");
    does("cross 1 if 2+3*4=14");
    does("cross 1 if 2*3+4=10");
    does("cross 1 if 2*3+4*5-6/2%2=25");
    does("cross 1 if 100/5/2=10");
    does("cross 1 if 7*3/2=10");
    does("cross 1 if 7/2*3=9");
    does("cross 1 if 17%10/2=3");
    does("cross 1 if 1+1=4-2");
    does("cross 1 if " + times("not ", 10) + "1=1");
    doesNot("cross 1 if " + times("not ", 9) + "1=1");
    does("cross 1 if " + times("[", 10) + "1=1" + times("]", 10));
  }

  // ---- promises 26 and 28

  private static void seedBelowNought() {
    about("seed: x becomes a number: what it was; NONE, and nothing happens, below 0");
    ThriceBridge t = new ThriceBridge();
    due("at first", t.seed(0), 0);
    due("one", t.seed(1), 0);
    due("the greatest", t.seed(GREATEST), 1);
    due("x", t.count(12), GREATEST);
    due("below 0", t.seed(-1), NONE);
    due("x", t.count(12), GREATEST);
    due("none", t.seed(0), GREATEST);
    due("x", t.count(12), 0);
    refused("below 0", x -> x.seed(-1));
    refused("the least", x -> x.seed(LEAST));
  }

  private static void countForOthers() {
    about("count: NONE for others");
    for (int what : new int[] {-1, -2, 14, 15, LEAST, GREATEST}) {
      refused("count(" + what + ")", t -> t.count(what));
      due("without a town", new ThriceBridge().count(what), NONE);
    }
  }

  private static void counts() {
    about("count: What 0: QUARTERS .. 13: bytes of the TAPE");
    ThriceBridge t = river();
    int[] want = {4, 3, 4, 1, 3, 4, 1, 1, 0, 8, 6, 2, 77, 17};
    for (int what = 0; what < want.length; what++) due("count " + what, t.count(what), want[what]);
    t.day();
    due("frost", t.count(8), 1);
    about("count: who is at home, as bits");
    t = in("town 2 5;bridge 0 1;person 0;person 1;person 0;person 1");
    for (int away = 0; away < 16; away++) {
      t.image(0);
      for (int person = 0; person < 4; person++) if ((away >> person & 1) != 0) t.cross(person, 0);
      due("at home", t.count(10), 15 - away);
      t.back(0);
    }
    due("without people", in("town 2 5").count(10), 0);
  }

  // ---- promises 29 and 30

  private static void fourImages() {
    about("IMAGES 0 to 3");
    ThriceBridge t = in("town 2 5;bridge 0 1;person 0");
    for (int k = 0; k < 4; k++) {
      due("image " + k, t.image(k), k);
      t.cross(0, 0);
      t.day();
    }
    for (int k : new int[] {2, 0, 3, 1, 1}) {
      due("back to " + k, t.back(k), k);
      due("day", t.count(7), k);
      due("left", t.left(0, 0), 5 - k);
      due("quarter", t.person(0, 0), k % 2);
    }
    due("made anew", t.image(3), 1);
    due("it is another", t.back(3), 1);
  }

  private static void imageWithoutIt() {
    about("image: NONE without it");
    for (int k : new int[] {-1, -2, 4, 5, LEAST, GREATEST}) refused("image(" + k + ")", t -> t.image(k));
    about("image: An IMAGE is made: DAY");
    due("day", river().image(0), 1);
    due("the last day", late(999).image(3), 999);
    due("without a town", new ThriceBridge().image(0), 0);
    ThriceBridge t = river();
    t.image(2);
    due("acts can be undone still", t.undo(), 1);
  }

  private static void backWithoutIt() {
    about("back: NONE, and nothing happens, if it was never made, or without it");
    for (int k : new int[] {-1, -2, 4, 5, LEAST, GREATEST}) refused("back(" + k + ")", t -> t.back(k));
    for (int k : new int[] {0, 2, 3}) refused("never made: " + k, t -> t.back(k));
  }

  private static void backToAnImage() {
    about("IMAGES: all but the TAPE and the RULES, as it is; gone back to, it is as it was (these stay; nothing can be UNDONE then)");
    ThriceBridge t = river();
    t.image(2);
    rule(t, "cross 2");
    feed(t, "town 2 1;person 1");
    t.cross(0, 1);
    t.sail(1, 0);
    t.day();
    t.rebuild(2);
    t.seed(GREATEST);
    due("back", t.back(2), 1);
    due("nothing can be undone", t.count(11), 0);
    due("undo", t.undo(), NONE);
    due("rules stay", t.count(6), 2);
    due("the tape stays", t.count(13), 17);
    due("x", t.count(12), 77);
    due("pay", t.count(9), 8);
    due("quarter", t.person(0, 0), 1);
    due("quarter", t.person(1, 0), 3);
    due("left", t.left(1, 2), 0);
    due("left", t.left(0, 1), 3);
    due("came", t.came(0, 0), 1);
    due("the first image", t.back(1), 0);
    due("its x", t.count(12), 5);
    due("quarter", t.person(0, 0), 0);
    due("pay", t.count(9), 0);
    due("a town from the tape", t.town(), 0);
    due("back to the other one", t.back(2), 1);
    due("bridges", t.count(2), 4);
    due("what is done in it can be undone", t.cross(0, 1), 2);
    due("undo", t.undo(), 0);
    t = new ThriceBridge();
    t.image(0);
    town(t, "town 2 1;person 0");
    t.day();
    due("back to no town", t.back(0), 0);
    due("no town", t.count(0), 0);
    due("no day", t.day(), NONE);
  }

  private static void fullLife() {
    about("An object is used for at most 512 calls");
    ThriceBridge t = in("town 2 1;person 0");
    for (int i = 0; i < 505; i++) due("day " + i, t.day(), 0);
    due("day", t.count(7), 505);
  }
}
