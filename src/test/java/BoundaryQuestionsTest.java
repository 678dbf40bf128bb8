/** The boundary cases that the document names for what is asked: a method a sentence. */
public final class BoundaryQuestionsTest extends Checks {
  private static final int[] NO_NUMBERS = {-1, -2, LEAST, GREATEST};

  public static void main(String[] args) {
    askingChangesNothing();
    fullestTown();
    reach();
    lost();
    wayThereOrNot();
    wayWithoutThese();
    wayFewestThenFirst();
    lifeDays();
    lifeSoManyThereAreNot();
    lifeCannotBe();
    lifeWithoutThese();
    lifeMostThenFirst();
    lifeOfThisDayOn();
    worthOfOneMore();
    worthWithoutThese();
    moreOfAll();
    moreWithoutThese();
    meetFewest();
    meetCannot();
    meetWithoutThese();
    bestByMost();
    bestByNone();
    bestForOthers();
    alone();
    letterHands();
    letterCannot();
    letterWithoutThese();
    cameRows();
    cameNone();
    cameEight();
    cameSince();
    cameWithoutThese();
    trailEight();
    trailFirst();
    trailWithoutThese();
    draws();
    livesBounds();
    livesWithoutThese();
    livesFromNowOn();
    finish();
  }

  /** Four quarters; person 1 is shut in, person 0 has acted twice; a rule, an image, an x, a town on the tape. */
  private static ThriceBridge river() {
    ThriceBridge t = in("town 4 3;bridge 0 1;bridge 1 2;bridge 2 3;bridge 0 2;ferry 1 3;frost 2 4;person 0;person 3;person 1;"
        + "crossed 0 0 2;crossed 1 2 3;want 0 2 1 10;want 0 1 3 5;want 1 2 0 8;want 2 0 2 6");
    rule(t, "cross nearer * 5 + 1 if nearer >= 0");
    t.image(1);
    t.seed(77);
    t.cross(0, 0);
    t.day();
    return feed(t, "town 2 1;person 1");
  }

  private static void refused(String call, Call asked, int answer) {
    changesNothing(call, BoundaryQuestionsTest::river, asked, answer);
  }

  private static void askingChangesNothing() {
    about("(By what is asked nothing changes.)");
    Start start = BoundaryQuestionsTest::river;
    for (int i = 0; i <= 6; i++) {
      int what = i;
      changesNothing("person", start, t -> { t.person(0, what); return 0; }, 0);
      changesNothing("way", start, t -> { t.way(0, 3, what); return 0; }, 0);
      changesNothing("life", start, t -> { t.life(0, 6, what); return 0; }, 0);
      changesNothing("worth", start, t -> { t.worth(0, 0, what); return 0; }, 0);
      changesNothing("more", start, t -> { t.more(0, what); return 0; }, 0);
      changesNothing("meet", start, t -> { t.meet(0, 2, what); return 0; }, 0);
      changesNothing("best", start, t -> { t.best(what); return 0; }, 0);
      changesNothing("letter", start, t -> { t.letter(0, 2, what); return 0; }, 0);
      changesNothing("came", start, t -> { t.came(0, what); return 0; }, 0);
      changesNothing("trail", start, t -> { t.trail(0, what); return 0; }, 0);
      changesNothing("lives", start, t -> { t.lives(10, 60, what); return 0; }, 0);
    }
    changesNothing("alone", start, t -> { t.alone(); return 0; }, 0);
  }

  /** A ring of eight quarters, as much of all as there can be: what has the last number is asked for. */
  private static void fullestTown() {
    about("BRIDGES 0 to 8, FERRIES 0 to 3, FROSTS 0 to 3, PEOPLE 0 to 3, WANTS 0 to 7");
    String town = "town 8 5;bridge 0 1;bridge 1 2;bridge 2 3;bridge 3 4;bridge 4 5;bridge 5 6;bridge 6 7;bridge 7 0;bridge 7 0;"
        + "ferry 0 1;ferry 0 2;ferry 0 3;ferry 7 4;frost 9 9;frost 8 8;frost 7 7;frost 1 1;person 0;person 2;person 5;person 7;"
        + "want 3 0 0 50;want 3 7 1 50;want 3 0 2 50;want 3 7 3 50;want 3 0 4 50;want 3 7 5 50;want 0 0 5 1;want 3 7 5 50";
    ThriceBridge t = in(town);
    int[] life = {350, 7, 7, 7, 7, 7, 8};
    for (int what = 0; what <= 6; what++) due("life", t.life(3, 6, what), life[what]);
    due("worth", t.worth(3, 8, 6), 0);
    due("more", t.more(3, 6), 0);
    int[] person = {7, 7, 0, 255, 0, 0};
    for (int what = 0; what <= 5; what++) due("person", t.person(3, what), person[what]);
    due("way", t.way(3, 3, 0), 4);
    due("way", t.way(3, 3, 1), 6);
    due("way to where one is", t.way(3, 7, 1), NONE);
    due("meet", t.meet(2, 3, 0), 6);
    due("meet", t.meet(3, 2, 1), 2);
    due("best", t.best(0), -2);
    due("alone", t.alone(), 0);
    due("letter", t.letter(0, 3, 0), 0);
    due("came", t.came(3, 0), 1);
    due("trail", t.trail(3, 0), 8);
    due("trail: 6 5 4 3 2 1 0 0", t.trail(3, 1), 1);
    due("left", t.left(3, 8), 5);
    due("cross", t.cross(3, 8), 0);
    due("crossed", t.bridge(8, 2), 1);
    due("rebuild", t.rebuild(8), 1);
    t.undo();
    t.undo();
    due("sail", t.sail(3, 3), 4);
    t.undo();
    t.day();
    due("frost", t.count(8), 1);
    town(t, town);
    rule(t, "cross nearer");
    due("run", t.run(0, 6), 351);
    due("the last crossing", t.left(3, 8), 4);
    due("pay", t.person(3, 2), 350);
    due("pay of all", t.count(9), 351);
    t = in("town 2 1;person 0;person 0;person 1;person 1;want 0 0 0 1;want 1 0 0 2;want 2 1 0 4;want 3 1 0 8");
    due("pay of four", t.day(), 15);
    due("pay of all four", t.count(9), 15);
    t = in("town 8 1" + times(";bridge 0 1", 8) + ";bridge 6 7;person 7;crossed 0 8 1");
    due("nine bridges, none left here", t.trail(0, 0), 0);
    due("nine bridges, none left here", t.way(0, 6, 0), -2);
    due("the ninth rebuilt", t.best(0), 8);
    due("the ninth is lost", t.person(0, 4), 256);
  }

  // ---- promise 6, what 3 and 4

  private static void reach() {
    about("REACH: QUARTERS to which they can come by BRIDGES with LEFT alone (theirs, too)");
    String row = "town 8 1;bridge 6 7;bridge 5 6;bridge 4 5;bridge 3 4;bridge 2 3;bridge 1 2;bridge 0 1;person 0";
    due("all eight", in(row).person(0, 3), 255);
    due("up to a bridge without left", in(row + ";crossed 0 2 1").person(0, 3), 31);
    due("theirs alone", in(row + ";crossed 0 6 1").person(0, 3), 1);
    due("theirs alone, without bridges", in("town 8 5;person 7").person(0, 3), 128);
    due("not by ferries", in("town 3 1;bridge 0 1;ferry 1 2;person 0").person(0, 3), 3);
    due("one crossing left is enough", in("town 2 5;bridge 0 1;person 0;crossed 0 0 4").person(0, 3), 3);
    due("another's crossings are not theirs", in("town 2 1;bridge 0 1;person 0;person 0;crossed 1 0 1").person(0, 3), 3);
  }

  private static void lost() {
    about("LOST of a PERSON: BRIDGES without LEFT, as bits");
    String nine = "town 2 2" + times(";bridge 0 1", 9) + ";person 0;person 0";
    due("none", in(nine).person(0, 4), 0);
    due("not with left", in(nine + ";crossed 0 0 1").person(0, 4), 0);
    due("the first and the last", in(nine + ";crossed 0 0 2;crossed 0 8 2").person(0, 4), 257);
    due("not another's", in(nine + ";crossed 0 0 2;crossed 0 8 2").person(1, 4), 0);
    ThriceBridge t = in("town 2 1;bridge 0 1;person 0");
    t.cross(0, 0);
    due("crossed", t.person(0, 4), 1);
    t.rebuild(0);
    due("rebuilt", t.person(0, 4), 0);
  }

  // ---- promise 16

  private static void wayThereOrNot() {
    about("way what 1: NONE: they are there; -2: they can't come there");
    ThriceBridge t = in("town 4 2;bridge 0 1;bridge 1 2;ferry 2 3;person 0;crossed 0 1 2");
    due("there", t.way(0, 0, 0), 0);
    due("there", t.way(0, 0, 1), NONE);
    due("next", t.way(0, 1, 0), 1);
    due("next", t.way(0, 1, 1), 0);
    due("nothing left", t.way(0, 2, 0), -2);
    due("nothing left", t.way(0, 2, 1), -2);
    due("by ferry alone", t.way(0, 3, 0), -2);
    due("by ferry alone", t.way(0, 3, 1), -2);
  }

  private static void wayWithoutThese() {
    about("way: -3 without these");
    for (int no : NO_NUMBERS) {
      refused("nobody", t -> t.way(no, 0, 0), -3);
      refused("no quarter", t -> t.way(0, no, 0), -3);
      refused("what", t -> t.way(0, 0, no), -3);
    }
    refused("nobody", t -> t.way(3, 0, 0), -3);
    refused("no quarter", t -> t.way(0, 4, 0), -3);
    refused("what", t -> t.way(0, 0, 2), -3);
    due("nobody, but there is that quarter", in("town 2 1").way(0, 0, 0), -3);
    due("the last of each", river().way(2, 3, 1), 1);
    due("what comes ahead of can't", river().way(1, 0, 2), -3);
  }

  private static void wayFewestThenFirst() {
    about("WAY: by how few crossings; the BRIDGE of the first one (of several ways the first row of BRIDGES)");
    String ring = "town 8 1;bridge 7 0;bridge 1 2;bridge 2 3;bridge 3 4;bridge 4 5;bridge 5 6;bridge 6 7;bridge 0 1;person 0";
    ThriceBridge t = in(ring);
    int[] few = {0, 1, 2, 3, 4, 3, 2, 1};
    int[] first = {NONE, 7, 7, 7, 0, 0, 0, 0};
    for (int quarter = 0; quarter < 8; quarter++) {
      due("how few to " + quarter, t.way(0, quarter, 0), few[quarter]);
      due("the first to " + quarter, t.way(0, quarter, 1), first[quarter]);
    }
    due("all the way round", in(ring + ";crossed 0 7 1").way(0, 1, 0), 7);
    due("of two alike the first", in("town 2 1;bridge 0 1;bridge 1 0;person 1").way(0, 0, 1), 0);
    due("of two alike the first with left", in("town 2 1;bridge 0 1;bridge 1 0;person 1;crossed 0 0 1").way(0, 0, 1), 1);
    due("the first row by its first bridge", in("town 4 1;bridge 2 3;bridge 0 1;bridge 0 2;bridge 1 3;person 0").way(0, 3, 1), 1);
  }

  // ---- promise 17

  private static void plan(ThriceBridge t, int n, int... due) {
    for (int what = 0; what <= 6; what++) {
      due("life(0, " + n + ", " + what + ")", t.life(0, n, what), what < due.length ? due[what] : -2);
    }
  }

  private static void lifeDays() {
    about("LIFE for n DAYS (1 to 6): on each, this one first, one BRIDGE at most is crossed, ahead of the DAY's end");
    ThriceBridge t = in("town 2 5;bridge 0 1;person 0;want 0 1 0 1;want 0 0 0 2;want 0 1 2 10;want 0 0 5 20;want 0 0 6 50");
    plan(t, 1, 2, NONE);
    plan(t, 2, 2, NONE, NONE);
    plan(t, 3, 2, NONE, NONE, NONE);
    plan(t, 4, 12, NONE, NONE, 0, 0);
    plan(t, 5, 12, NONE, NONE, 0, NONE, 0);
    plan(t, 6, 32, NONE, NONE, 0, NONE, NONE, 0);
    t = in("town 3 5;bridge 0 1;bridge 1 2;person 0;want 0 2 0 50;want 0 2 1 7");
    plan(t, 3, 0, NONE, NONE, NONE);
    plan(t, 4, 7, 0, 1, 1, 0);
  }

  private static void lifeSoManyThereAreNot() {
    about("life what 1 to 6: the BRIDGE of that DAY (NONE: none; -2: so many there are not)");
    ThriceBridge t = in("town 2 5;bridge 0 1;person 0");
    for (int n = 1; n <= 6; n++) {
      for (int what = 1; what <= 6; what++) due("day " + what + " of " + n, t.life(0, n, what), what <= n ? NONE : -2);
    }
  }

  private static void lifeCannotBe() {
    about("life: -2: it can't be");
    ThriceBridge t = in("town 3 1;bridge 0 1;bridge 1 2;ferry 0 2;person 0");
    t.cross(0, 0);
    plan(t, 6);
    t = in("town 3 1;bridge 0 1;bridge 1 2;ferry 0 2;person 0");
    t.sail(0, 0);
    plan(t, 1);
    plan(t, 2, 0, 1, 0);
    plan(t, 3, 0, NONE, 1, 0);
    t = in("town 7 1;bridge 0 1;bridge 1 2;bridge 2 3;bridge 3 4;bridge 4 5;bridge 5 6;ferry 0 6;person 0");
    t.sail(0, 0);
    plan(t, 5);
    plan(t, 6, 0, 5, 4, 3, 2, 1, 0);
  }

  private static void lifeWithoutThese() {
    about("life: -3 without these");
    for (int no : NO_NUMBERS) {
      refused("nobody", t -> t.life(no, 1, 0), -3);
      refused("days", t -> t.life(0, no, 0), -3);
      refused("what", t -> t.life(0, 6, no), -3);
    }
    refused("nobody", t -> t.life(3, 1, 0), -3);
    refused("no days", t -> t.life(0, 0, 0), -3);
    refused("seven days", t -> t.life(0, 7, 0), -3);
    refused("what", t -> t.life(0, 6, 7), -3);
    refused("what, where it can't be", t -> t.life(0, 1, 7), -3);
    refused("it can't be", t -> t.life(0, 1, 0), -2);
    due("the last of each", river().life(2, 6, 6), 0);
  }

  private static void lifeMostThenFirst() {
    about("LIFE: most PAY is earned: of several the first (none ahead of BRIDGE 0)");
    plan(in("town 2 5;bridge 0 1;person 0"), 6, 0, NONE, NONE, NONE, NONE, NONE, NONE);
    plan(in("town 2 5;bridge 0 1;person 0;want 0 1 3 1"), 6, 1, NONE, NONE, NONE, 0, NONE, 0);
    plan(in("town 2 1;bridge 0 1;bridge 0 1;person 0;want 0 1 3 1"), 6, 1, NONE, NONE, NONE, 0, NONE, 1);
    plan(in("town 3 1;bridge 0 2;bridge 0 1;bridge 1 2;person 0;want 0 1 1 4;want 0 2 1 4"), 4, 4, NONE, 0, 2, 1);
    plan(in("town 3 2;bridge 0 2;bridge 0 1;person 0;want 0 1 1 4;want 0 2 1 4"), 3, 4, NONE, 0, 0);
    plan(in("town 3 2;bridge 0 2;bridge 0 1;person 0;want 0 1 1 5;want 0 2 1 4"), 3, 5, NONE, 1, 1);
    plan(in("town 2 3;bridge 0 1;bridge 0 1;person 0;want 0 1 0 2;want 0 0 1 2;want 0 1 2 2;want 0 0 3 2;want 0 1 4 2;want 0 0 5 2"),
        6, 12, 0, 0, 0, 1, 1, 1);
    about("LIFE: of a DAY all WANTS in its QUARTER are met");
    plan(in("town 2 2;bridge 0 1;person 0;person 0;want 0 0 0 5;want 0 1 0 4;want 0 1 0 3;want 1 1 0 50"), 2, 7, 0, 0);
    plan(in("town 2 2;bridge 0 1;person 0;person 0;want 0 0 0 8;want 0 1 0 4;want 0 1 0 3;want 1 1 0 50"), 2, 8, NONE, NONE);
    about("LIFE: by which the PERSON is at home behind the last");
    plan(in("town 2 1;bridge 0 1;person 0;want 0 1 0 50"), 6, 0, NONE, NONE, NONE, NONE, NONE, NONE);
    plan(in("town 2 2;bridge 0 1;person 0;want 0 1 0 50"), 1, 0, NONE);
    plan(in("town 2 2;bridge 0 1;person 0;want 0 1 0 50"), 2, 50, 0, 0);
  }

  private static void lifeOfThisDayOn() {
    about("LIFE: on each, this one first");
    ThriceBridge t = in("town 2 5;bridge 0 1;person 0;person 0;want 0 1 0 50;want 0 1 1 3;want 0 1 6 5;want 0 1 7 9;want 1 0 2 40");
    t.day();
    plan(t, 2, 3, 0, 0);
    plan(t, 6, 3, 0, NONE, NONE, NONE, NONE, 0);
    t.day();
    plan(t, 6, 5, NONE, NONE, NONE, NONE, 0, 0);
    about("LIFE: on the last DAYS of all");
    t = in("town 2 5;bridge 0 1;person 0;want 0 0 0 1");
    rule(t, "cross 0");
    for (int i = 0; i < 16; i++) t.run(0, 60);
    t.run(0, 39);
    plan(t, 6, 0, NONE, NONE, NONE, NONE, NONE, NONE);
  }

  // ---- promises 18 and 19

  private static void worthOfOneMore() {
    about("WORTH: by how much more LIFE earns with one more crossing of it LEFT (more than TIMES may be; LIFE that can't be: 0)");
    ThriceBridge t = in("town 2 1;bridge 0 1;person 0;want 0 1 0 5;want 0 1 2 7");
    due("in one day", t.worth(0, 0, 1), 0);
    due("two of one", t.worth(0, 0, 2), 5);
    due("in three days", t.worth(0, 0, 3), 5);
    due("in six days", t.worth(0, 0, 6), 12);
    t.cross(0, 0);
    due("that can't be: 0", t.life(0, 2, 0), -2);
    due("from 0 on", t.worth(0, 0, 2), 5);
    due("from 0 on", t.worth(0, 0, 1), 0);
    t = in("town 3 5;bridge 0 1;bridge 1 2;ferry 0 2;person 0;want 0 2 0 9;want 0 0 0 1");
    t.sail(0, 0);
    due("it can't be either way", t.worth(0, 0, 1), 0);
    due("nothing is earned by more than enough", t.worth(0, 1, 6), 0);
    String wants = ";bridge 0 1;person 0;want 0 1 0 1;want 0 0 1 2;want 0 1 2 4";
    due("the third brings nobody home", in("town 2 2" + wants).worth(0, 0, 4), 0);
    due("the fourth does", in("town 2 3" + wants).worth(0, 0, 4), 1);
    due("the fifth is not needed", in("town 2 4" + wants).worth(0, 0, 4), 0);
    due("for a bridge that is not needed", in("town 3 1;bridge 0 1;bridge 0 2;person 0;want 0 1 0 5").worth(0, 1, 6), 0);
  }

  private static void worthWithoutThese() {
    about("worth: NONE without these");
    for (int no : NO_NUMBERS) {
      refused("nobody", t -> t.worth(no, 0, 1), NONE);
      refused("no bridge", t -> t.worth(0, no, 1), NONE);
      refused("days", t -> t.worth(0, 0, no), NONE);
    }
    refused("nobody", t -> t.worth(3, 0, 1), NONE);
    refused("no bridge", t -> t.worth(0, 4, 1), NONE);
    refused("no days", t -> t.worth(0, 0, 0), NONE);
    refused("seven days", t -> t.worth(0, 0, 7), NONE);
    due("the last of each", river().worth(2, 3, 6), 0);
  }

  private static void moreOfAll() {
    about("MORE: likewise with one more of all BRIDGES");
    ThriceBridge t = in("town 3 1;bridge 0 1;bridge 1 2;person 0;want 0 2 1 9;want 0 1 0 5");
    due("one alone", t.worth(0, 0, 4), 5);
    due("the other alone", t.worth(0, 1, 4), 0);
    due("both", t.more(0, 4), 14);
    due("too few days", t.more(0, 3), 5);
    due("too few days", t.more(0, 1), 0);
    t.cross(0, 0);
    due("that can't be: 0", t.more(0, 1), 0);
    due("with more it can", t.more(0, 2), 5);
    due("without bridges", in("town 2 1;person 0;want 0 0 0 5").more(0, 6), 0);
    String nine = "town 2 1" + times(";bridge 0 1", 9) + ";person 0;want 0 1 0 5";
    due("nine bridges are enough", in(nine).more(0, 6), 0);
    String lastOne = "town 8 1" + times(";bridge 0 1", 8) + ";bridge 0 2;person 0;want 0 2 0 5";
    due("the ninth bridge", in(lastOne).more(0, 2), 5);
    due("the ninth bridge", in(lastOne).worth(0, 8, 2), 5);
  }

  private static void moreWithoutThese() {
    about("more: NONE without these");
    for (int no : NO_NUMBERS) {
      refused("nobody", t -> t.more(no, 1), NONE);
      refused("days", t -> t.more(0, no), NONE);
    }
    refused("nobody", t -> t.more(3, 1), NONE);
    refused("no days", t -> t.more(0, 0), NONE);
    refused("seven days", t -> t.more(0, 7), NONE);
    due("the last of each", river().more(2, 6), 0);
  }

  // ---- promise 20

  private static void meeting(String town, int quarter, int many) {
    ThriceBridge t = in(town);
    due("where", t.meet(0, 1, 0), quarter);
    due("how many", t.meet(0, 1, 1), many);
    due("where, asked the other way", t.meet(1, 0, 0), quarter);
    due("how many, asked the other way", t.meet(1, 0, 1), many);
  }

  private static void meetFewest() {
    about("MEET: both WAYS together are fewest, of several that with the lesser greater WAY, then the least QUARTER");
    meeting("town 2 1;person 1;person 1", 1, 0);
    meeting("town 2 1;bridge 0 1;person 1;person 0", 0, 1);
    meeting("town 2 1;bridge 0 1;person 1;person 0;crossed 1 0 1", 0, 1);
    meeting("town 2 1;bridge 0 1;person 0;person 1;crossed 0 0 1", 0, 1);
    meeting("town 3 1;bridge 0 2;bridge 2 1;person 0;person 1", 2, 2);
    meeting("town 4 1;bridge 0 3;bridge 3 2;bridge 2 1;person 0;person 1", 2, 3);
    meeting("town 4 1;bridge 0 2;bridge 0 3;bridge 2 1;bridge 3 1;person 0;person 1", 2, 2);
    meeting("town 4 1;bridge 0 2;bridge 0 3;bridge 2 1;bridge 3 1;person 0;person 1;crossed 0 0 1", 3, 2);
    meeting("town 8 1;bridge 0 1;bridge 1 2;bridge 2 3;bridge 3 4;bridge 4 5;bridge 5 6;bridge 6 7;person 7;person 0", 3, 7);
    meeting("town 3 1;bridge 0 1;bridge 0 2;bridge 1 2;person 1;person 2", 1, 1);
    meeting("town 7 1;bridge 0 1;bridge 1 2;bridge 3 6;bridge 6 2;bridge 3 5;bridge 5 4;bridge 4 0;person 0;person 3;crossed 0 6 1", 0, 3);
    about("MEET: in the REACH of both, by LEFT of each");
    meeting("town 3 1;bridge 0 1;bridge 1 2;bridge 0 2;person 0;person 2;crossed 0 2 1;crossed 1 2 1", 1, 2);
    meeting("town 3 1;bridge 0 1;bridge 1 2;person 0;person 2;crossed 0 1 1;crossed 1 0 1", 1, 2);
    meeting("town 3 1;bridge 0 1;bridge 1 2;person 0;person 2;crossed 0 0 1", 0, 2);
  }

  private static void meetCannot() {
    about("meet: -2: they can't");
    meeting("town 2 1;person 0;person 1", -2, -2);
    meeting("town 2 1;ferry 0 1;person 0;person 1", -2, -2);
    meeting("town 2 1;bridge 0 1;person 0;person 1;crossed 0 0 1;crossed 1 0 1", -2, -2);
    meeting("town 4 1;bridge 0 1;bridge 2 3;person 0;person 3", -2, -2);
  }

  private static void meetWithoutThese() {
    about("meet: NONE without these (unlike)");
    for (int no : NO_NUMBERS) {
      refused("nobody", t -> t.meet(no, 0, 0), NONE);
      refused("nobody", t -> t.meet(0, no, 0), NONE);
      refused("what", t -> t.meet(0, 1, no), NONE);
      refused("nobody twice", t -> t.meet(no, no, 0), NONE);
    }
    refused("nobody", t -> t.meet(3, 0, 0), NONE);
    refused("nobody", t -> t.meet(0, 3, 0), NONE);
    refused("what", t -> t.meet(0, 1, 2), NONE);
    for (int person = 0; person < 3; person++) {
      int one = person;
      refused("oneself", t -> t.meet(one, one, 0), NONE);
    }
    due("what, where they can't", in("town 2 1;person 0;person 1").meet(0, 1, 2), NONE);
  }

  // ---- promises 21 and 22

  private static void best(String town, int bridge, int many, int who) {
    ThriceBridge t = in(town);
    due("which of " + town, t.best(0), bridge);
    due("how many of " + town, t.best(1), many);
    due("who of " + town, t.best(2), who);
  }

  private static void bestByMost() {
    about("REBUILD: the BRIDGE by whose rebuilding REACHES of all grow by most QUARTERS together, of several the least");
    best("town 2 1;bridge 0 1;person 0;crossed 0 0 1", 0, 1, 1);
    best("town 3 1;bridge 0 1;bridge 0 2;person 0;crossed 0 0 1;crossed 0 1 1", 0, 1, 1);
    best("town 3 1;bridge 0 1;bridge 0 2;person 0;person 0;crossed 0 0 1;crossed 0 1 1;crossed 1 1 1", 1, 2, 3);
    best("town 4 1;bridge 0 1;bridge 0 2;bridge 2 3;person 0;crossed 0 0 1;crossed 0 1 1", 1, 2, 1);
    best("town 2 1;bridge 0 1;person 0;person 0;person 1;person 1;crossed 1 0 1;crossed 3 0 1", 0, 2, 10);
    best("town 3 1;bridge 0 1;bridge 1 2;person 0;crossed 0 0 1;crossed 0 1 1", 0, 1, 1);
    best("town 8 1" + times(";bridge 0 1", 8) + ";bridge 0 7;person 0;crossed 0 8 1", 8, 1, 1);
    about("whose REACH would grow, as bits");
    best("town 3 1;bridge 0 1;bridge 0 2;person 0;person 0;person 0;person 0;crossed 0 0 1;crossed 3 0 1;crossed 1 1 1", 0, 2, 9);
  }

  private static void bestByNone() {
    about("best: (-2: by none REACHES grow; by none: 0, 0)");
    best("town 2 1", -2, 0, 0);
    best("town 2 1;bridge 0 1", -2, 0, 0);
    best("town 2 1;person 0", -2, 0, 0);
    best("town 2 1;bridge 0 1;person 0", -2, 0, 0);
    best("town 2 1;bridge 0 1;bridge 0 1;person 0;crossed 0 0 1", -2, 0, 0);
    best("town 3 1;bridge 1 2;person 0;crossed 0 0 1", -2, 0, 0);
  }

  private static void bestForOthers() {
    about("best: NONE for others, or without a TOWN");
    for (int no : NO_NUMBERS) refused("what", t -> t.best(no), NONE);
    refused("what", t -> t.best(3), NONE);
    for (int what = 0; what <= 2; what++) due("without a town", new ThriceBridge().best(what), NONE);
  }

  private static void alone() {
    about("ALONE: who can be reached by nobody else (their QUARTER is in no other's REACH), as bits; NONE without a TOWN");
    due("without a town", new ThriceBridge().alone(), NONE);
    due("nobody", in("town 2 1").alone(), 0);
    due("one", in("town 2 1;person 0").alone(), 1);
    due("two in one quarter", in("town 2 1;person 0;person 0").alone(), 0);
    due("two in two", in("town 2 1;person 0;person 1").alone(), 3);
    due("two and a bridge", in("town 2 1;bridge 0 1;person 0;person 1").alone(), 0);
    due("a ferry is none", in("town 2 1;ferry 0 1;person 0;person 1").alone(), 3);
    due("who may reach is not reached", in("town 2 1;bridge 0 1;person 0;person 1;crossed 1 0 1").alone(), 1);
    due("all but one", in("town 5 1;bridge 0 1;person 1;person 2;person 3;person 0").alone(), 6);
    due("four", in("town 5 1;person 1;person 2;person 3;person 0").alone(), 15);
    due("meeting half way is not being reached",
        in("town 3 1;bridge 0 1;bridge 1 2;person 0;person 2;crossed 0 1 1;crossed 1 0 1").alone(), 3);
  }

  // ---- promise 23

  private static void letterHands() {
    about("LETTER: the fewest hands between; the first row of them; 1 to 2: who, in that place (-2: so many there are not)");
    String row = "town 5 1;bridge 0 1;bridge 1 2;bridge 2 3;bridge 3 4;person 0;person 2;person 2;person 4;"
        + "crossed 0 1 1;crossed 1 2 1;crossed 2 1 1;crossed 3 2 1";
    int[][][] due = { // few, first, second
      {{}, {0, -2, -2}, {1, 1, -2}, {2, 1, 2}},
      {{0, -2, -2}, {}, {0, -2, -2}, {1, 2, -2}},
      {{1, 1, -2}, {0, -2, -2}, {}, {0, -2, -2}},
      {{2, 2, 1}, {1, 2, -2}, {0, -2, -2}, {}}};
    ThriceBridge t = in(row);
    for (int from = 0; from < 4; from++) {
      for (int to = 0; to < 4; to++) {
        for (int what = 0; what <= 2; what++) {
          due("letter(" + from + ", " + to + ", " + what + ")", t.letter(from, to, what), from == to ? NONE : due[from][to][what]);
        }
      }
    }
    t = in("town 4 1;bridge 0 1;bridge 0 2;person 1;person 0;person 0;person 2;crossed 0 0 1;crossed 3 1 1");
    due("one of two", t.letter(0, 3, 0), 1);
    due("the first of two", t.letter(0, 3, 1), 1);
    due("the first of two, from the other", t.letter(3, 0, 1), 1);
    t = in("town 3 1;bridge 0 1;bridge 0 2;person 0;person 1;person 2;crossed 1 0 1;crossed 2 1 1");
    due("by the hand of 0", t.letter(1, 2, 0), 1);
    due("by the hand of 0", t.letter(1, 2, 1), 0);
    due("by the hand of 0", t.letter(2, 1, 1), 0);
    due("who meet half way", in("town 3 1;bridge 0 1;bridge 1 2;person 0;person 2;crossed 0 1 1;crossed 1 0 1").letter(0, 1, 0), 0);
    due("in one quarter", in("town 3 1;person 2;person 2").letter(0, 1, 0), 0);
  }

  private static void letterCannot() {
    about("letter: -2: it can't come there");
    ThriceBridge t = in("town 4 1;bridge 0 1;ferry 2 3;person 0;person 1;person 2;person 3");
    for (int what = 0; what <= 2; what++) {
      due("over the water", t.letter(0, 2, what), -2);
      due("over the water", t.letter(2, 0, what), -2);
      due("by ferry", t.letter(2, 3, what), -2);
    }
    due("but there", t.letter(0, 1, 0), 0);
  }

  private static void letterWithoutThese() {
    about("letter: NONE without these (unlike)");
    for (int no : NO_NUMBERS) {
      refused("nobody", t -> t.letter(no, 0, 0), NONE);
      refused("nobody", t -> t.letter(0, no, 0), NONE);
      refused("what", t -> t.letter(0, 1, no), NONE);
      refused("nobody twice", t -> t.letter(no, no, 0), NONE);
    }
    refused("nobody", t -> t.letter(3, 0, 0), NONE);
    refused("nobody", t -> t.letter(0, 3, 0), NONE);
    refused("what", t -> t.letter(0, 1, 3), NONE);
    for (int person = 0; person < 3; person++) {
      int one = person;
      refused("oneself", t -> t.letter(one, one, 0), NONE);
    }
    due("what, where it can't come", in("town 2 1;person 0;person 1").letter(0, 1, 3), NONE);
  }

  // ---- promise 24

  private static void came(ThriceBridge t, int many, int bits, int last) {
    due("how many", t.came(0, 0), many);
    due("the last ones", t.came(0, 1), bits);
    due("the last of the first", t.came(0, 2), last);
  }

  private static void crossAll(ThriceBridge t, int... bridges) {
    for (int bridge : bridges) due("cross " + bridge, t.cross(0, bridge) >= 0 ? 1 : 0, 1);
  }

  private static void cameRows() {
    about("CAME: how many rows; BRIDGES that can have been the last one, as bits; the first row's last one");
    ThriceBridge t = in("town 3 2;bridge 0 1;bridge 0 1;bridge 1 2;person 0");
    crossAll(t, 1);
    came(t, 1, 2, 1);
    crossAll(t, 0);
    came(t, 2, 3, 1);
    crossAll(t, 0);
    came(t, 3, 3, 1);
    crossAll(t, 2);
    came(t, 3, 4, 2);
    crossAll(t, 2);
    // 0 0 1, with 2 2 behind the first or the third of them
    came(t, 6, 7, 2);
    t = in("town 2 1" + times(";bridge 0 1", 9) + ";person 0");
    crossAll(t, 8);
    came(t, 1, 256, 8);
  }

  private static void cameNone() {
    about("came what 2: (-2: there is none, or no crossing)");
    ThriceBridge t = in("town 3 2;bridge 0 1;bridge 1 2;ferry 0 2;ferry 0 1;person 0;person 0");
    came(t, 1, 0, -2);
    t.sail(0, 0);
    came(t, 0, 0, -2);
    crossAll(t, 1);
    came(t, 0, 0, -2);
    t.sail(0, 1);
    t.undo();
    t.undo();
    t.undo();
    came(t, 1, 0, -2);
    t.carry(1, 0, 0);
    came(t, 0, 0, -2);
    due("who carried", t.came(1, 0), 1);
    due("who carried", t.came(1, 2), 0);
    t.sail(0, 1);
    came(t, 1, 0, -2);
  }

  private static void cameEight() {
    about("CAME (8 crossings together at most): -3: more than 8 crossings");
    ThriceBridge t = in("town 2 5;bridge 0 1;bridge 0 1;person 0;person 1");
    crossAll(t, 0, 1, 0, 1, 0, 1, 0);
    came(t, 35, 3, 1);
    crossAll(t, 1);
    came(t, 70, 3, 1);
    crossAll(t, 0);
    came(t, -3, -3, -3);
    due("of another", t.came(1, 0), 1);
    t.undo();
    came(t, 70, 3, 1);
    crossAll(t, 1, 0);
    came(t, -3, -3, -3);
    t.rebuild(0);
    came(t, 0, 0, -2);
    t = in("town 2 1" + times(";bridge 0 1", 9) + ";person 0");
    crossAll(t, 0, 1, 2, 3, 4, 5, 6, 8);
    came(t, 40320, 383, 8);
    crossAll(t, 7);
    came(t, -3, -3, -3);
    t = in("town 2 5;bridge 0 1;bridge 1 0;person 0;crossed 0 0 5;crossed 0 1 4");
    came(t, 1, 0, -2);
    crossAll(t, 1);
    came(t, 1, 2, 1);
  }

  private static void cameSince() {
    about("CAME: as often as they crossed it since the text was told, or since it was rebuilt last");
    ThriceBridge t = in("town 2 4;bridge 0 1;bridge 0 1;person 0;crossed 0 0 1");
    crossAll(t, 0, 1, 0);
    came(t, 3, 3, 1);
    due("rebuilt", t.rebuild(0), 3);
    came(t, 1, 2, 1);
    crossAll(t, 0);
    came(t, 2, 3, 1);
    due("rebuilt", t.rebuild(1), 1);
    came(t, 0, 0, -2);
    crossAll(t, 0);
    came(t, 0, 0, -2);
    crossAll(t, 1);
    came(t, 0, 0, -2);
    town(t, "town 2 4;bridge 0 1;person 0");
    came(t, 1, 0, -2);
  }

  private static void cameWithoutThese() {
    about("came: NONE without these");
    for (int no : NO_NUMBERS) {
      refused("nobody", t -> t.came(no, 0), NONE);
      refused("what", t -> t.came(0, no), NONE);
    }
    refused("nobody", t -> t.came(3, 0), NONE);
    refused("what", t -> t.came(0, 3), NONE);
    due("the last one", river().came(2, 2), -2);
    ThriceBridge t = in("town 2 5;bridge 0 1;bridge 0 1;person 0");
    crossAll(t, 0, 0, 0, 0, 0, 1, 1, 1, 1);
    due("what, with nine crossings", t.came(0, 3), NONE);
    due("nobody, with nine crossings", t.came(1, 0), NONE);
  }

  // ---- promise 25

  private static void trail(String town, int many, int quarter) {
    ThriceBridge t = in(town);
    due("how many in " + town, t.trail(0, 0), many);
    due("where in " + town, t.trail(0, 1), quarter);
  }

  private static void trailEight() {
    about("TRAIL: the most crossings in a row that LEFT lets them do, from where they are (8 are looked at)");
    trail("town 2 1;person 1", 0, 1);
    trail("town 3 1;bridge 1 2;person 0", 0, 0);
    trail("town 2 1;bridge 0 1;person 0;crossed 0 0 1", 0, 0);
    trail("town 2 1;bridge 0 1;person 0", 1, 1);
    trail("town 2 5;bridge 0 1;person 0", 5, 1);
    trail("town 2 4;bridge 0 1;bridge 0 1;person 0;crossed 0 0 1", 7, 1);
    trail("town 2 4;bridge 0 1;bridge 0 1;person 0", 8, 0);
    trail("town 2 5;bridge 0 1;bridge 0 1;person 0;crossed 0 0 1", 8, 0);
    trail("town 2 5" + times(";bridge 0 1", 9) + ";person 1", 8, 1);
    trail("town 8 1;bridge 0 1;bridge 1 2;bridge 2 3;bridge 3 4;bridge 4 5;bridge 5 6;bridge 6 7;person 0", 7, 7);
    trail("town 8 1;bridge 0 1;bridge 1 2;bridge 2 3;bridge 3 4;bridge 4 5;bridge 5 6;bridge 6 7;person 3", 4, 7);
    trail("town 8 1;bridge 0 1;bridge 1 2;bridge 2 3;bridge 3 4;bridge 4 5;bridge 5 6;bridge 6 7;bridge 7 0;person 0", 8, 0);
    trail("town 3 1;bridge 0 1;ferry 1 2;person 0", 1, 1);
    ThriceBridge t = in("town 3 2;bridge 0 1;bridge 1 2;person 0");
    due("from home", t.trail(0, 0), 4);
    t.cross(0, 0);
    due("from where they are", t.trail(0, 0), 3);
    due("where", t.trail(0, 1), 0);
  }

  private static void trailFirst() {
    about("TRAIL: of several such rows of BRIDGES the first; the QUARTER where it ends");
    trail("town 3 1;bridge 0 2;bridge 0 1;person 0", 1, 2);
    trail("town 3 1;bridge 0 1;bridge 0 2;person 0", 1, 1);
    trail("town 4 1;bridge 0 1;bridge 0 2;bridge 2 3;person 0", 2, 3);
    trail("town 5 1;bridge 0 1;bridge 1 4;bridge 0 2;bridge 2 3;person 0", 2, 4);
    trail("town 4 2;bridge 0 1;bridge 0 2;bridge 0 3;person 0", 6, 0);
    trail("town 4 2;bridge 0 1;bridge 0 2;bridge 0 3;person 0;crossed 0 0 1", 5, 1);
    trail("town 3 4;bridge 0 1;bridge 1 2;bridge 0 2;person 0", 8, 1);
    trail("town 5 1;bridge 0 1;bridge 1 2;bridge 0 1;bridge 0 3;bridge 3 4;person 0", 4, 4);
    trail("town 6 1;bridge 0 1;bridge 1 2;bridge 0 2;bridge 1 3;bridge 3 4;bridge 4 5;person 0", 5, 5);
  }

  private static void trailWithoutThese() {
    about("trail: NONE without these");
    for (int no : NO_NUMBERS) {
      refused("nobody", t -> t.trail(no, 0), NONE);
      refused("what", t -> t.trail(0, no), NONE);
    }
    refused("nobody", t -> t.trail(3, 0), NONE);
    refused("what", t -> t.trail(0, 2), NONE);
    due("the last one, shut in", river().trail(1, 1), 3);
  }

  // ---- promise 27

  /** The draws that x makes, each of so many, as the document tells them. */
  private static int[] drawn(long x, int many, int of) {
    int[] out = new int[many];
    for (int i = 0; i < many; i++) {
      x = (x * 1103515245L + 12345L) % 2147483648L;
      out[i] = (int) (x / 65536 % of);
    }
    return out;
  }

  private static void draws() {
    about("DRAWS: x becomes x * 1103515245 + 12345, of 2147483648 the rest; a DRAW is x / 65536");
    for (int x : new int[] {0, 1, 2, 12345, 77, 65535, 65536, 1 << 30, GREATEST - 1, GREATEST}) {
      ThriceBridge t = in("town 2 5;bridge 0 1;person 0;want 0 1 0 7");
      t.seed(x);
      int[] draws = drawn(x, 60, 2);
      int crossings = 0;
      for (int n = 1; n <= 60; n++) {
        if (draws[n - 1] == 0 && crossings < 5) crossings++;
        due("crossings in " + n + " days from x " + x, t.lives(1, n, 0), crossings);
      }
      due("pay", t.lives(1, 60, 1), draws[0] == 0 ? 7 : 0);
      due("x as it was", t.count(12), x);
    }
    about("a DRAW mod one more than BRIDGES there are: that BRIDGE is crossed, if they can (the last number: none)");
    for (int x = 0; x < 40; x++) {
      ThriceBridge t = in("town 4 1;bridge 0 1;bridge 2 3;bridge 0 2;person 0;person 2;want 0 1 0 1;want 0 2 0 2;want 1 3 0 4;"
          + "want 1 0 0 8;want 0 0 0 16;want 1 2 0 32");
      t.seed(x);
      int[] draws = drawn(x, 2, 4);
      int crossings = (draws[0] == 0 || draws[0] == 2 ? 1 : 0) + (draws[1] == 1 || draws[1] == 2 ? 1 : 0);
      int pay = (draws[0] == 0 ? 1 : draws[0] == 2 ? 2 : 16) + (draws[1] == 1 ? 4 : draws[1] == 2 ? 8 : 32);
      due("crossings from x " + x, t.lives(1, 1, 0), crossings);
      due("pay from x " + x, t.lives(1, 1, 1), pay);
    }
  }

  private static void livesBounds() {
    about("LIVES m times (1 to 10) n DAYS (1 to 60) from now on: crossings; PAY, all together");
    ThriceBridge t = in("town 2 5;bridge 0 1;person 0;want 0 0 0 1;want 0 1 0 1;want 0 0 59 4;want 0 1 59 4;want 0 0 60 50;want 0 1 60 50");
    for (int m = 1; m <= 10; m++) {
      due(m + " times a day", t.lives(m, 1, 1), m);
      due(m + " times 59 days", t.lives(m, 59, 1), m);
      due(m + " times 60 days", t.lives(m, 60, 1), 5 * m);
      due(m + " times 60 days", t.lives(m, 60, 0), 5 * m);
      int[] draws = drawn(0, 10, 2);
      int crossings = 0;
      for (int i = 0; i < m; i++) crossings += 1 - draws[i];
      due("draws go on from life to life", t.lives(m, 1, 0), crossings);
    }
    due("without bridges", in("town 2 5;person 0").lives(10, 60, 0), 0);
    due("without people", in("town 2 5;bridge 0 1").lives(10, 60, 0), 0);
    due("without people", in("town 2 5;bridge 0 1").lives(10, 60, 1), 0);
  }

  private static void livesWithoutThese() {
    about("lives: NONE without these, or a TOWN");
    for (int no : NO_NUMBERS) {
      refused("times", t -> t.lives(no, 1, 0), NONE);
      refused("days", t -> t.lives(1, no, 0), NONE);
      refused("what", t -> t.lives(1, 1, no), NONE);
    }
    refused("no times", t -> t.lives(0, 1, 0), NONE);
    refused("11 times", t -> t.lives(11, 1, 0), NONE);
    refused("no days", t -> t.lives(1, 0, 0), NONE);
    refused("61 days", t -> t.lives(1, 61, 0), NONE);
    refused("what", t -> t.lives(1, 1, 2), NONE);
    due("without a town", new ThriceBridge().lives(1, 1, 0), NONE);
    due("without a town", new ThriceBridge().lives(1, 1, 1), NONE);
  }

  private static void livesFromNowOn() {
    about("LIVES from now on (nothing stays; x as it was)");
    ThriceBridge t = in("town 2 1;bridge 0 1;person 0;want 0 0 0 9;want 0 0 1 2;want 0 1 1 2;want 0 0 3 5;want 0 1 3 5");
    t.day();
    due("pay earned ahead is none of theirs", t.lives(1, 1, 1), 2);
    due("three days", t.lives(1, 3, 1), 7);
    t.cross(0, 0);
    due("nothing left", t.lives(10, 60, 0), 0);
    rule(t, "cross 0");
    for (int i = 0; i < 16; i++) t.run(0, 60);
    t.run(0, 38);
    due("day", t.count(7), 999);
    t.rebuild(0);
    due("past the last day", t.lives(1, 60, 0), 1);
    due("day", t.count(7), 999);
  }
}
