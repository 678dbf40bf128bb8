/** The boundary cases that the document names for the tape, for towns and for rules: a method a sentence. */
public final class BoundaryTextsTest extends Checks {
  private static final String[] CLAUSES = {"town", "bridge", "ferry", "frost", "person", "crossed", "want"};
  private static final String[] WORDS = {"person", "bridge", "from", "to", "home", "left", "day", "goal", "pay", "until",
      "nearer", "people"};

  public static void main(String[] args) {
    highestByteFirst();
    tapeIsFull();
    tapeIsShortened();
    nothingBehindTheEnd();
    tapeHasNotSoMany();
    townTakesTheTape();
    townWithFault();
    townInPlaceOfAnother();
    ruleTakesTheTape();
    ruleWithFault();
    sixRules();

    longestTown();
    mostClauses();
    townOnceAndFirst();
    quartersAndTimes();
    linkedQuarters();
    frostDays();
    homes();
    crossedAlready();
    wants();
    mostOfEach();
    dayNoughtAtHome();
    longestRule();
    twelveRuleClauses();
    digits();
    letters();
    blanks();
    brackets();
    nots();
    sixtyParts();
    signs();

    faultNought();
    faultAtTheEnd();
    faultOne();
    firstAlongTheText();
    leastOfOnePlace();
    finish();
  }

  /** A tape with one byte amid blanks. */
  private static ThriceBridge spot(int place, int sign) {
    int[] n = new int[5];
    for (int i = 0; i < 20; i++) n[i / 4] = n[i / 4] << 8 | (i == place ? sign : ' ');
    ThriceBridge t = new ThriceBridge();
    t.feed(n[0], n[1], n[2], n[3], n[4]);
    return t;
  }

  // ---- promises 2 and 3

  private static void highestByteFirst() {
    about("feed: Twenty bytes come behind the TAPE, of each number the highest first");
    for (int place = 0; place < 20; place++) {
      due("the sign at " + place, spot(place, '!').town(), fault(place, 0));
      due("a byte above 127 at " + place, spot(place, 255).rule(), fault(place, 0));
      due("the byte 0 at " + place, spot(place, 0).town(), fault(place, 0));
    }
    ThriceBridge t = new ThriceBridge();
    due("feed", t.feed(0x746f776e, 0x20322031, 0x20202020, 0x20202020, 0x20202020), 20); // town 2 1
    due("feed", t.feed(0x3b706572, 0x736f6e20, 0x31202020, 0x20202020, 0x20202020), 40); // ;person 1
    due("town", t.town(), 0);
    due("home", t.person(0, 1), 1);
  }

  private static ThriceBridge withTape(String text) { return feed(new ThriceBridge(), text); }

  private static void tapeIsFull() {
    about("feed: how many it has; NONE, and none comes, if it would have more than 400");
    ThriceBridge t = new ThriceBridge();
    for (int i = 1; i <= 20; i++) due("feed " + i, t.feed(0, 0, 0, 0, 0), 20 * i);
    String town = padded("town 2 1;person 1", 400);
    for (int length = 381; length <= 400; length++) {
      t = withTape(town);
      t.end(length);
      due("feed behind " + length, t.feed(-1, -1, -1, -1, -1), NONE);
      due("bytes", t.count(13), length);
      due("town of what was there", t.town(), 0);
      due("home", t.person(0, 1), 1);
    }
    t = withTape(town);
    t.end(380);
    due("feed behind 380", t.feed(-1, -1, -1, -1, -1), 400);
    due("town of all that came", t.town(), fault(380, 0));
  }

  private static void tapeIsShortened() {
    about("end: The TAPE has its first n bytes alone: n");
    ThriceBridge t = withTape("town 2 1;person 1;bridge 0 1");
    due("all", t.end(28), 28);
    due("one less", t.end(27), 27);
    due("town", t.town(), fault(27, 0));
    t = withTape("town 2 1;person 1");
    due("the first eight", t.end(8), 8);
    feed(t, ";ferry 0 1");
    due("town", t.town(), 0);
    due("people", t.count(4), 0);
    due("ferries", t.count(3), 1);
    t = withTape("town 2 1;");
    due("none", t.end(0), 0);
    due("bytes", t.count(13), 0);
    due("none of none", t.end(0), 0);
    due("feed", t.feed(0, 0, 0, 0, 0), 20);
  }

  private static void nothingBehindTheEnd() {
    about("end: The TAPE has its first n bytes alone: what stood behind them is not read");
    String town = "town 00003 00005;bridge 0 1;ferry 1 2;frost 10 99;person 2;crossed 0 0 5;want 0 2 99 50  ";
    String rule = "cross 12345+left*2 if not [left<=10 and people>=12] or nearer<10;cross until  ";
    for (int n = 0; n <= town.length(); n++) {
      ThriceBridge t = withTape(town);
      t.end(n);
      due("town of its first " + n, t.town(), withTape(town.substring(0, n)).town());
    }
    for (int n = 0; n <= rule.length(); n++) {
      ThriceBridge t = withTape(rule);
      t.end(n);
      due("rule of its first " + n, t.rule(), withTape(rule.substring(0, n)).rule());
    }
    ThriceBridge t = withTape("cross 1 if 1<=1");
    t.end(13);
    due("the sign < at the end", t.rule(), fault(13, 0));
    t = withTape("town 2 15");
    t.end(8);
    due("a digit at the end", t.town(), 0);
    due("times", t.count(1), 1);
    t = withTape("cross leftx");
    t.end(10);
    due("a word at the end", t.rule(), 0);
  }

  private static void tapeHasNotSoMany() {
    about("end: NONE, and nothing happens, if it has not so many, or n is below 0");
    Start twenty = () -> withTape(padded("town 2 1;person 1", 20));
    for (int n : new int[] {-1, -20, LEAST, 21, 400, 401, GREATEST}) {
      changesNothing("end(" + n + ") of 20", twenty, t -> t.end(n), NONE);
    }
    changesNothing("end(1) of none", ThriceBridge::new, t -> t.end(1), NONE);
    changesNothing("end(-1) of none", ThriceBridge::new, t -> t.end(-1), NONE);
    changesNothing("end(401) of 400", () -> withTape(times("!", 400)), t -> t.end(401), NONE);
  }

  // ---- promise 4

  private static void townTakesTheTape() {
    about("town: The TAPE, which is empty then, is the TOWN: how many BRIDGES");
    for (int bridges = 0; bridges <= 9; bridges++) {
      ThriceBridge t = withTape("town 2 1" + times(";bridge 0 1", bridges));
      due("town", t.town(), bridges);
      due("bytes", t.count(13), 0);
      due("bridges", t.count(2), bridges);
      due("the empty tape is none", t.town(), fault(0, 0));
      due("the town stays", t.count(0), 2);
    }
  }

  /** A town with two acts, a rule, an image, an x; the tape is empty. */
  private static ThriceBridge lived() {
    ThriceBridge t = in("town 3 2;bridge 0 1;bridge 1 2;person 0;person 1;crossed 1 1 1;want 0 1 0 9;want 1 2 3 4");
    rule(t, "cross nearer + 1");
    t.image(1);
    t.cross(0, 0);
    t.day();
    t.seed(77);
    return t;
  }

  private static void townWithFault() {
    about("town: -2 - its FAULT, and all stays");
    String[] texts = {"", "town 2 1;", "town 8 5;bridge 0 1;person 0;want 0 1 2 51", times(" ", 400), times("x", 400)};
    int[] answers = {fault(0, 0), fault(9, 0), fault(40, 1), fault(400, 0), fault(0, 0)};
    for (int i = 0; i < texts.length; i++) {
      String text = texts[i];
      changesNothing("a fault", BoundaryTextsTest::lived, t -> feed(t, text).town(), answers[i]);
    }
  }

  private static void townInPlaceOfAnother() {
    about("town: in place of the one there was (DAY 0, nothing to be UNDONE; x stays)");
    ThriceBridge t = lived();
    due("town", town(t, "town 2 1;person 1;person 1"), 0);
    int[] counts = {2, 1, 0, 0, 2, 0, 1, 0, 0, 0, 3, 0, 77, 0};
    for (int what = 0; what < counts.length; what++) due("count " + what, t.count(what), counts[what]);
    due("undo", t.undo(), NONE);
    due("no bridge", t.left(0, 0), NONE);
    due("pay", t.person(0, 2), 0);
    t = lived();
    due("the same again", town(t, "town 3 2;bridge 0 1;bridge 1 2;person 0;person 1"), 2);
    due("nothing is crossed", t.left(0, 0), 2);
    due("nothing is crossed already", t.left(1, 1), 2);
    due("nothing is crossed since", t.came(0, 0), 1);
    due("the image stays", t.back(1), 0);
    due("with its town", t.left(1, 1), 1);
  }

  // ---- promise 5

  private static void ruleTakesTheTape() {
    about("rule: The TAPE, which is empty then, is a RULE: its number");
    ThriceBridge t = in("town 2 5;bridge 0 1;person 0");
    for (int number = 0; number < 6; number++) {
      due("rule", feed(t, number == 3 ? "cross 1" : "cross 0").rule(), number);
      due("bytes", t.count(13), 0);
      due("rules", t.count(6), number + 1);
    }
    for (int number = 0; number < 6; number++) {
      t.run(number, 1);
      due("by rule " + number, t.person(0, 0), number < 3 ? 0 : 1);
    }
  }

  private static void ruleWithFault() {
    about("rule: -2 - its FAULT");
    changesNothing("a fault", BoundaryTextsTest::lived, t -> feed(t, "cross 5 if").rule(), fault(10, 0));
    changesNothing("an empty tape", BoundaryTextsTest::lived, t -> t.rule(), fault(0, 0));
    ThriceBridge t = in("town 2 1;bridge 0 1;person 0");
    due("a fault", rule(t, "cross 1;cross 0 if 1"), fault(20, 0));
    due("no rule", t.run(0, 1), NONE);
    due("the next has its number", rule(t, "cross 0"), 0);
    t.run(0, 1);
    due("and nothing of it", t.person(0, 0), 0);
    t = in("town 2 1;bridge 0 1;person 0");
    due("a fault behind clauses", rule(t, "cross 0 if 1=2;cross 5 if 1=1;cross 5;x"), fault(38, 0));
    due("the next has its number", rule(t, "cross 9 if 1=2"), 0);
    t.run(0, 1);
    due("and none of its clauses", t.person(0, 0), 0);
    String sixty = "cross 0" + times("+0", 58) + "+1";
    for (int i = 0; i < 9; i++) due("a fault behind sixty values", rule(t, sixty + "+1"), fault(sixty.length() + 1, 3));
    due("sixty values", rule(t, sixty), 1);
    t.run(1, 1);
    due("and none of what was counted", t.person(0, 0), 1);
  }

  private static ThriceBridge withSixRules(String tape) {
    ThriceBridge t = lived();
    for (int i = 0; i < 5; i++) rule(t, "cross 0");
    return feed(t, tape);
  }

  private static void sixRules() {
    about("rule: NONE, and nothing happens: there are 6");
    changesNothing("a rule", () -> withSixRules("cross 1"), t -> t.rule(), NONE);
    changesNothing("a fault", () -> withSixRules("cross"), t -> t.rule(), NONE);
    changesNothing("a town's text", () -> withSixRules("town 2 1;person 0"), t -> t.rule(), NONE);
    changesNothing("an empty tape", () -> withSixRules(""), t -> t.rule(), NONE);
    ThriceBridge t = withSixRules("town 2 1");
    t.rule();
    due("the tape stays", t.count(13), 8);
    due("with its bytes", t.town(), 0);
    due("another town has them still", t.count(6), 6);
  }

  // ---- the terms of a town

  private static void longestTown() {
    about("A TOWN is a text of at most 400 bytes");
    ThriceBridge t = in("town 2 1" + times(" ", 383) + ";person 1");
    due("a person at its end", t.person(0, 1), 1);
    townFault("town 2 1" + times(" ", 391) + ";", 400, 0);
    townFault("town 2 1" + times(" ", 390) + ";9", 399, 0);
    townFault(times(" ", 396) + "town", 400, 0);
    townFault(times(" ", 397) + "tow", 397, 0);
  }

  private static void mostClauses() {
    about("CLAUSE { ; CLAUSE }, 40 at most");
    // 41 clauses can't be told in 400 bytes; these are the most that can.
    String most = "town2 1" + times(";bridge0 1", 9) + times(";ferry0 1", 4) + times(";frost0 0", 4) + times(";person0", 4)
        + times(";want0 0 0 1", 8) + times(";crossed0 0 0", 7);
    ThriceBridge t = in(most);
    int[] counts = {2, 1, 9, 4, 4, 8};
    for (int what = 0; what < counts.length; what++) due("count " + what, t.count(what), counts[what]);
    due("one more is longer than 400", most.length() + 13, 401);
    due("one alone", town(t, "town 2 1"), 0);
    townFault(";town 2 1", 0, 0);
    townFault("town 2 1;", 9, 0);
    townFault("town 2 1;;person 0", 9, 0);
    townFault("town 2 1,person 0", 8, 0);
    townFault("town 2 1 person 0", 9, 0);
  }

  private static void townOnceAndFirst() {
    about("town (once, the first CLAUSE): 4 a second town, another CLAUSE ahead of it (at its first byte)");
    for (String word : CLAUSES) {
      if (!word.equals("town")) {
        townFault(word + " 0 1;town 2 1", 0, 4);
        townFault("   " + word, 3, 4);
      }
    }
    townFault("town 2 1;town 2 1", 9, 4);
    townFault("town 2 1;bridge 0 1;  town", 22, 4);
    townFault("town 2 1;person 0;town 9 9", 18, 4);
  }

  private static void quartersAndTimes() {
    about("town NUMBER NUMBER (QUARTERS 2 to 8; TIMES 1 to 5)");
    for (int quarters = 2; quarters <= 8; quarters++) {
      for (int times = 1; times <= 5; times++) {
        ThriceBridge t = in("town " + quarters + " " + times);
        due("quarters", t.count(0), quarters);
        due("times", t.count(1), times);
      }
    }
    for (int quarters : new int[] {0, 1, 9, 10, 22, 99999}) townFault("town " + quarters + " 3", 5, 1);
    for (int times : new int[] {0, 6, 7, 10, 15, 99999}) townFault("town 4 " + times, 7, 1);
  }

  private static void linkedQuarters() {
    about("bridge, ferry NUMBER NUMBER (two QUARTERS; 1 the second QUARTER, if it is the first)");
    for (int quarters = 2; quarters <= 8; quarters++) {
      String town = "town " + quarters + " 1;";
      int last = quarters - 1;
      ThriceBridge t = in(town + "bridge 0 " + last + ";bridge " + last + " 0;ferry " + last + " 0");
      due("first", t.bridge(0, 0), 0);
      due("second", t.bridge(0, 1), last);
      due("first", t.bridge(1, 0), last);
      due("second", t.bridge(1, 1), 0);
      for (String word : new String[] {"bridge ", "ferry "}) {
        int place = town.length() + word.length();
        townFault(town + word + quarters + " 0", place, 1);
        townFault(town + word + "0 " + quarters, place + 2, 1);
        for (int quarter = 0; quarter < quarters; quarter++) {
          townFault(town + word + quarter + "  " + quarter, place + 3, 1);
        }
        townFault(town + word + "00000 0", place + 6, 1);
      }
    }
  }

  private static void frostDays() {
    about("frost NUMBER NUMBER (the first, the last DAY, 0 to 99, not below the first)");
    due("the first day", in("town 2 1;frost 0 0").count(8), 1);
    due("another day", in("town 2 1;frost 1 99").count(8), 0);
    due("the last day", in("town 2 1;frost 99 99").count(8), 0);
    due("all days", in("town 2 1;frost 0 99").count(8), 1);
    due("of several one", in("town 2 1;frost 5 6;frost 3 4;frost 1 2;frost 0 0").count(8), 1);
    townFault("town 2 1;frost 100 100", 15, 1);
    townFault("town 2 1;frost 0 100", 17, 1);
    townFault("town 2 1;frost 99 98", 18, 1);
    townFault("town 2 1;frost 1 0", 17, 1);
    townFault("town 2 1;frost 0 0;frost 50 49", 28, 1);
  }

  private static void homes() {
    about("person NUMBER (a QUARTER, their HOME)");
    for (int quarters = 2; quarters <= 8; quarters++) {
      ThriceBridge t = in("town " + quarters + " 1;person " + (quarters - 1) + ";person 0");
      due("the last quarter", t.person(0, 1), quarters - 1);
      due("the first quarter", t.person(1, 1), 0);
      townFault("town " + quarters + " 1;person " + quarters, 16, 1);
    }
    townFault("town 2 1;person 0 1", 18, 0);
  }

  private static void crossedAlready() {
    about("crossed (a PERSON, a BRIDGE, that were told; 0 to TIMES; of the same the last told, 0 without)");
    for (int times = 1; times <= 5; times++) {
      String town = "town 2 " + times + ";bridge 0 1;bridge 0 1;person 0;person 0";
      for (int often = 0; often <= times; often++) {
        ThriceBridge t = in(town + ";crossed 1 1 " + often);
        due("left", t.left(1, 1), times - often);
        due("left without", t.left(0, 1), times);
        due("left without", t.left(1, 0), times);
        due("crossed", t.bridge(1, 2), often);
      }
      townFault(town + ";crossed 1 1 " + (times + 1), town.length() + 13, 1);
      townFault(town + ";crossed 2 0 0", town.length() + 9, 1);
      townFault(town + ";crossed 0 2 0", town.length() + 11, 1);
      ThriceBridge t = in(town + ";crossed 0 0 " + times + ";crossed 0 1 1;crossed 0 0 0");
      due("the last told", t.left(0, 0), times);
      due("of another", t.left(0, 1), times - 1);
    }
    townFault("town 2 1;bridge 0 1;crossed 0 0 0;person 0", 28, 1);
    townFault("town 2 1;person 0;crossed 0 0 0;bridge 0 1", 28, 1);
    due("nothing of it can be undone", in("town 2 1;bridge 0 1;person 0;crossed 0 0 1").count(11), 0);
  }

  private static void wants() {
    about("want (a PERSON that was told, a QUARTER, a DAY 0 to 99, PAY 1 to 50)");
    String town = "town 3 1;person 0;person 0;";
    ThriceBridge t = in(town + "want 1 2 99 50;want 0 0 0 1");
    due("goal", t.person(1, 5), 2);
    due("pay", t.day(), 1);
    for (int quarter = 0; quarter < 3; quarter++) due("goal", in(town + "want 0 " + quarter + " 0 50").person(0, 5), quarter);
    townFault(town + "want 2 0 0 1", 32, 1);
    townFault(town + "want 1 3 0 1", 34, 1);
    townFault(town + "want 1 2 100 1", 36, 1);
    townFault(town + "want 1 2 99 0", 39, 1);
    townFault(town + "want 1 2 99 51", 39, 1);
    townFault("town 3 1;want 0 0 0 1;person 0", 14, 1);
  }

  private static void tooMany(String word, String clause, int most, int what) {
    String town = "town 2 1;bridge 0 1;person 0";
    int told = word.equals("bridge") || word.equals("person") ? most - 1 : most;
    String full = town + times(";" + clause, told);
    ThriceBridge t = in(full);
    due(word + ": how many", t.count(what), most);
    townFault(full + ";" + clause, full.length() + 1, 4);
    townFault(full + ";  " + word, full.length() + 3, 4);
    townFault(full + ";" + word + " 9 9 9 9", full.length() + 1, 4);
  }

  private static void mostOfEach() {
    about("4 a tenth BRIDGE, a fifth FERRY or PERSON, a ninth WANT (at its first byte)");
    tooMany("bridge", "bridge 0 1", 9, 2);
    tooMany("ferry", "ferry 0 1", 4, 3);
    tooMany("person", "person 1", 4, 4);
    tooMany("want", "want 0 1 2 3", 8, 5);
    about("4 a fifth FROST (at its first byte)");
    String four = "town 2 1" + times(";frost 1 1", 3) + ";frost 0 0";
    due("the fourth frost", in(four).count(8), 1);
    townFault(four + ";frost 0 0", four.length() + 1, 4);
    townFault(four + "; frost", four.length() + 2, 4);
    about("BRIDGES 0 to 8, FERRIES 0 to 3, PEOPLE 0 to 3, WANTS 0 to 7, in the order told");
    ThriceBridge t = in("town 5 1;bridge 0 1;person 0;ferry 0 2;person 1;bridge 2 3;ferry 0 4;bridge 4 0;person 4");
    int[][] told = {{0, 1}, {2, 3}, {4, 0}};
    for (int bridge = 0; bridge < 3; bridge++) {
      due("first of " + bridge, t.bridge(bridge, 0), told[bridge][0]);
      due("second of " + bridge, t.bridge(bridge, 1), told[bridge][1]);
    }
    due("home of 1", t.person(1, 1), 1);
    due("home of 2", t.person(2, 1), 4);
    due("ferry 0", t.sail(0, 0), 2);
    due("ferry 1", t.sail(2, 1), 0);
    t = in("town 2 1;person 0");
    for (int what = 2; what <= 5; what++) due("none of count " + what, t.count(what), what == 4 ? 1 : 0);
  }

  private static void dayNoughtAtHome() {
    about("It is DAY 0; all are at home");
    ThriceBridge t = in("town 8 1;person 7;person 0;person 3;person 7");
    due("day", t.count(7), 0);
    due("at home", t.count(10), 15);
    for (int person = 0; person < 4; person++) due("quarter", t.person(person, 0), t.person(person, 1));
  }

  // ---- the terms of a rule

  private static void longestRule() {
    about("RULES: texts likewise (at most 400 bytes)");
    ThriceBridge t = new ThriceBridge();
    due("a value at its end", rule(t, "cross" + times(" ", 394) + "1"), 0);
    due("a clause at its end", rule(t, "cross 1" + times(" ", 385) + ";cross 1"), 1);
    ruleFault("cross 1" + times(" ", 392) + ";", 400, 0);
    ruleFault("cross 1" + times(" ", 392) + "1", 399, 0);
    ruleFault(times(" ", 400), 400, 0);
  }

  private static void twelveRuleClauses() {
    about("RULES: 12 CLAUSES at most; 4 one CLAUSE too many (at its first byte)");
    ThriceBridge t = in("town 2 1;bridge 0 1;person 0");
    String eleven = times("cross 0 if 1=2;", 11);
    due("twelve", rule(t, eleven + "cross 1"), 0);
    t.run(0, 1);
    due("the twelfth holds", t.person(0, 0), 1);
    String twelve = eleven + "cross 1";
    ruleFault(twelve + ";cross 1", twelve.length() + 1, 4);
    ruleFault(twelve + ";   cross", twelve.length() + 4, 4);
    ruleFault(twelve + ";", twelve.length() + 1, 0);
    due("one", rule(t, "cross 1"), 1);
  }

  private static void digits() {
    about("NUMBER (1 to 5 digits, as far as digits go on); 1 a NUMBER of more digits");
    ThriceBridge t = in("town 00002 00005;bridge 00000 00001;person 00001;want 00000 00001 00099 00050");
    due("times", t.count(1), 5);
    due("rule", rule(t, "cross 99999-99998*00001"), 0);
    t.run(0, 1);
    due("99999 is above 99998", t.person(0, 0), 0);
    townFault("town 000002 1", 5, 1);
    townFault("town 2 000001", 7, 1);
    townFault("town 23 1", 5, 1);
    townFault("town 2 1;person 000000", 16, 1);
    townFault("town 2 1;person " + times("0", 300), 16, 1);
    ruleFault("cross 100000", 6, 1);
    ruleFault("cross 000000", 6, 1);
    ruleFault("cross 1 if day = 123456", 17, 1);
    ruleFault("cross " + times("9", 394), 6, 1);
    ruleFault("cross 1 2", 8, 0);
    ruleFault("cross +1", 6, 0);
  }

  private static void letters() {
    about("WORDS (small letters, as far as these go on): 0 a WORD that can't stand there");
    for (String word : CLAUSES) {
      String town = word.equals("town") ? "" : "town 2 1;";
      townFault(town + word.substring(1) + " 0 1", town.length(), 0);
      townFault(town + word.substring(0, word.length() - 1) + " 0 1", town.length(), 0);
      townFault(town + word + "s 0 1", town.length(), 0);
      townFault(town + word + "z0 1", town.length(), 0);
      townFault(town + word.substring(0, 1).toUpperCase() + word.substring(1) + " 0 1", town.length(), 0);
      townFault(town + word.substring(0, 1) + " " + word.substring(1) + " 0 1", town.length(), 0);
      townFault(town + word + "A 0 1", town.length() + word.length(), 0);
    }
    for (String word : WORDS) {
      ThriceBridge t = new ThriceBridge();
      due("rule of " + word, rule(t, "cross " + word + "*" + word + " if " + word + "=" + word), 0);
      due("rule behind if: " + word, rule(t, "cross1if 1<" + word), 1);
      ruleFault("cross " + word + "a", 6, 0);
      ruleFault("cross " + word + "z", 6, 0);
      ruleFault("cross " + word + word, 6, 0);
      ruleFault("cross " + word.substring(1), 6, 0);
      ruleFault("cross " + word.substring(0, word.length() - 1) + ";", 6, 0);
      ruleFault("cross 1 if 1 < " + word + "if", 15, 0);
      ruleFault("cross " + word + "{", 6 + word.length(), 0);
      ruleFault("cross " + word + "`", 6 + word.length(), 0);
      ruleFault("cross " + word + "1", 6 + word.length(), 0);
    }
    for (String word : new String[] {"cross", "if", "and", "or", "not", "town", "ferry", "want"}) {
      ruleFault("cross " + word, 6, 0);
      ruleFault("cross 1 + " + word, 10, 0);
      ruleFault("cross 1 if 1 = " + word, 15, 0);
    }
    ruleFault("cros 1", 0, 0);
    ruleFault("crossif 1", 0, 0);
    ruleFault("Cross 1", 0, 0);
    ruleFault("cross 1 i 1=1", 8, 0);
    ruleFault("cross 1 ifnot 1=1", 8, 0);
    ruleFault("cross 1 if notnot 1=1", 11, 0);
    ruleFault("cross 1 if 1=1 an 1=1", 15, 0);
    ruleFault("cross 1 if 1=1 o 1=1", 15, 0);
    ruleFault("cross 1 if 1=1 orr 1=1", 15, 0);
  }

  private static void blanks() {
    about("Blanks (32) stand between as one likes");
    ThriceBridge t = new ThriceBridge();
    due("none", town(t, "town2 1;bridge0 1;ferry1 0;frost0 0;person0;crossed0 0 1;want0 1 2 3"), 1);
    due("many", town(t, "   town   2   1   ;   bridge   0   1   "), 1);
    due("none", rule(t, "cross1+2*left-3/4%5if not[1<2or 3<=4]and5=6or7>=8;cross9if1>2"), 0);
    due("many", rule(t, "  cross   1  +  2  if  not  [  1  <=  2  ]  and  1 = 1  ;  cross  1  "), 1);
    for (char sign : new char[] {9, 10, 13, 0, 31, 33, 160, 255}) {
      townFault("town" + sign + "2 1", 4, 0);
      townFault(sign + "town 2 1", 0, 0);
      townFault("town 2 1" + sign, 8, 0);
      ruleFault("cross" + sign + "1", 5, 0);
      ruleFault("cross 1" + sign, 7, 0);
      ruleFault("cross 1 if 1 <" + sign + " 1", 14, 0);
    }
    about("Blanks stand between, not within");
    townFault("to wn 2 1", 0, 0);
    ruleFault("cross 1 if 1 < = 1", 15, 0);
    ruleFault("cross 1 if 1 > = 1", 15, 0);
    ruleFault("cross 1 0", 8, 0);
  }

  private static void brackets() {
    about("[ lies within one another 10 deep at most; 2 too deep (at the sign that opens)");
    ThriceBridge t = new ThriceBridge();
    due("ten deep", rule(t, "cross 1 if " + times("[", 10) + "1=1" + times("]", 10)), 0);
    due("ten deep, twice", rule(t, "cross 1 if " + times("[", 10) + "1=1" + times("]", 10) + "or" + times("[", 10) + "1=1"
        + times("]", 10)), 1);
    due("ten deep, in another clause", rule(t, "cross 1 if " + times("[", 10) + "1=1" + times("]", 10) + ";cross 1 if"
        + times("[", 10) + "1=1" + times("]", 10)), 2);
    due("beside one another", rule(t, "cross 1 if [1=1]" + times("and[1=1]", 11)), 3);
    due("beside one another, nine deep", rule(t, "cross 1 if " + times("[", 9) + "[1=1]and[1=1]or[1=1]" + times("]", 9)), 4);
    ruleFault("cross 1 if " + times("[", 11) + "1=1" + times("]", 11), 21, 2);
    ruleFault("cross 1 if " + times("[ ", 10) + " [", 32, 2);
    ruleFault("cross 1 if " + times("[", 9) + "[1=1]and[[", 29, 2);
    ruleFault("cross 1 if 1=1 and " + times("[", 200), 29, 2);
    about("[ TEST ] (these brackets are signs)");
    ruleFault("cross 1 if [1=1", 15, 0);
    ruleFault("cross 1 if [[1=1]", 17, 0);
    ruleFault("cross 1 if 1=1]", 14, 0);
    ruleFault("cross 1 if [1=1]]", 16, 0);
    ruleFault("cross 1 if []", 12, 0);
    ruleFault("cross 1 [ if 1=1 ]", 8, 0);
    ruleFault("cross [1]", 6, 0);
    ruleFault("cross 1 if 1=[1]", 13, 0);
    ruleFault("cross 1 if [1=1] = 1", 17, 0);
  }

  private static void nots() {
    about("not lies within one another (and [) 10 deep at most; 2 too deep (at the word not)");
    ThriceBridge t = new ThriceBridge();
    due("ten deep", rule(t, "cross 1 if " + times("not ", 10) + "1=1"), 0);
    due("ten deep, thrice", rule(t, "cross 1 if " + times("not ", 10) + "1=1 and " + times("not ", 10) + "1=1 or "
        + times("not ", 10) + "1=1"), 1);
    due("five of each", rule(t, "cross 1 if " + times("not [", 5) + "1=1" + times("]", 5)), 2);
    due("behind a bracket that is shut", rule(t, "cross 1 if not[" + times("[", 8) + "1=1" + times("]", 9) + "and"
        + times(" not", 10) + " 1=1"), 3);
    ruleFault("cross 1 if " + times("not ", 11) + "1=1", 51, 2);
    ruleFault("cross 1 if " + times("not ", 10) + "   not", 54, 2);
    ruleFault("cross 1 if " + times("not ", 10) + "[1=1]", 51, 2);
    ruleFault("cross 1 if " + times("not[", 5) + "[", 31, 2);
    ruleFault("cross 1 if " + times("[", 10) + "not 1=1", 21, 2);
    ruleFault("cross 1 if " + times("[", 9) + "not 1=1 and not not 1=1", 36, 2);
  }

  private static void sixtyParts() {
    about("at most 60 VALUES (of SUMS) and FACTS made of a SIGN, together; 3 one too many (at its first byte; of a FACT at its SIGN)");
    ThriceBridge t = in("town 2 1;bridge 0 1;person 0");
    String sixty = "cross 0" + times("+0", 58) + "+1";
    due("sixty values", rule(t, sixty), 0);
    t.run(0, 1);
    due("the sixtieth counts", t.person(0, 0), 1);
    ruleFault(sixty + "*1", sixty.length() + 1, 3);
    ruleFault(sixty + "-  left", sixty.length() + 3, 3);
    ruleFault(sixty + ";cross 7", sixty.length() + 7, 3);
    ruleFault(sixty + " if 1=1", sixty.length() + 4, 3);
    ruleFault(sixty + " if not [ 1", sixty.length() + 10, 3);
    String facts = "cross left if 1=1" + times("or 1=1", 18) + "or ";
    due("58 parts and two values", rule(t, facts.substring(0, facts.length() - 3) + ";cross 1+1"), 1);
    ruleFault(facts + "1=1", facts.length() + 2, 3);
    ruleFault(facts + "1  >= 1", facts.length() + 6, 3);
    ruleFault(facts + "1+1=1", facts.length() + 3, 3);
    ruleFault(facts + "1+1  <=  1", facts.length() + 5, 3);
    String nineteen = "cross 1 if 1=1" + times("or 1=1", 18) + ";cross ";
    due("sixty in two clauses", rule(t, nineteen + "1+left"), 2);
    ruleFault(nineteen + "1+left+left", nineteen.length() + 7, 3);
    due("words, brackets and nots are not counted", rule(t, "cross 1 if not[1=1]" + times("or not[1=1]", 18) + ";cross 1+1"), 3);
    String twelve = times("cross 1+1+1+1+1;", 12);
    due("sixty in twelve clauses", rule(t, twelve.substring(0, twelve.length() - 1)), 4);
    ruleFault(twelve.substring(0, twelve.length() - 1) + "+1", twelve.length(), 3);
  }

  private static void signs() {
    about("SIGN one of < <= = >= >");
    ThriceBridge t = new ThriceBridge();
    String[] right = {"<", "<=", "=", ">=", ">"};
    for (int i = 0; i < right.length; i++) due(right[i], rule(t, "cross 1 if 1" + right[i] + "1"), i);
    ruleFault("cross 1 if 1==1", 13, 0);
    ruleFault("cross 1 if 1=<1", 13, 0);
    ruleFault("cross 1 if 1=>1", 13, 0);
    ruleFault("cross 1 if 1<>1", 13, 0);
    ruleFault("cross 1 if 1<<1", 13, 0);
    ruleFault("cross 1 if 1<==1", 14, 0);
    ruleFault("cross 1 if 1!1", 12, 0);
    ruleFault("cross 1 if 1=1=1", 14, 0);
    ruleFault("cross 1 if <1", 11, 0);
    ruleFault("cross 1<1", 7, 0);
    ruleFault("cross 1 if 1", 12, 0);
    ruleFault("cross 1 if 1 and 1=1", 13, 0);
  }

  // ---- faults

  private static void faultNought() {
    about("0 a byte that can't stand there");
    String town = "town 2 1;bridge 0 1;person 0";
    for (int sign = 0; sign < 256; sign++) {
      boolean digit = sign >= '0' && sign <= '9';
      boolean letter = sign >= 'a' && sign <= 'z';
      if (sign != ' ') townFault((char) sign + " 2 1", 0, 0);
      if (sign != ' ' && sign != ';') townFault("town 2 1" + (char) sign, digit ? 7 : 8, digit ? 1 : 0);
      if (sign != ' ' && !digit) townFault("town 2 1;person " + (char) sign, 16, 0);
      if (sign != ' ' && !digit) ruleFault("cross " + (char) sign, 6, 0);
      if (" ;+-*/%".indexOf(sign) < 0) ruleFault("cross left" + (char) sign, letter ? 6 : 10, 0);
      if (" <=>+-*/%".indexOf(sign) < 0) ruleFault("cross 1 if left" + (char) sign, letter ? 11 : 15, 0);
    }
    due("that town", town(new ThriceBridge(), town), 1);
    townFault(town + " 0", town.length() + 1, 0);
    townFault(town + ":", town.length(), 0);
  }

  private static void faultAtTheEnd() {
    about("0 the end (behind the last byte)");
    for (String text : new String[] {"", "town", "town 2", "town 2 1;", "town 2 1;bridge", "town 2 1;bridge 0", "town 2 1;ferry",
        "town 2 1;ferry 0", "town 2 1;frost", "town 2 1;frost 0", "town 2 1;person", "town 2 1;bridge 0 1;person 0;crossed",
        "town 2 1;bridge 0 1;person 0;crossed 0", "town 2 1;bridge 0 1;person 0;crossed 0 0", "town 2 1;person 0;want",
        "town 2 1;person 0;want 0", "town 2 1;person 0;want 0 0", "town 2 1;person 0;want 0 0 0", "town 2 1;person 0;"}) {
      townFault(text, text.length(), 0);
      townFault(text + "   ", text.length() + 3, 0);
    }
    for (String text : new String[] {"", "cross", "cross 1+", "cross 1*", "cross 1/", "cross 1%", "cross 1-", "cross 1;",
        "cross 1 if", "cross 1 if not", "cross 1 if [", "cross 1 if 1", "cross 1 if 1<", "cross 1 if 1<=", "cross 1 if 1=1 and",
        "cross 1 if 1=1 or", "cross 1 if [1=1", "cross 1 if 1=1;"}) {
      ruleFault(text, text.length(), 0);
      ruleFault(text + " ", text.length() + 1, 0);
    }
  }

  private static void faultOne() {
    about("1 a NUMBER not as told, at its first byte");
    townFault("town 10 1", 5, 1);
    townFault("town   1 1", 7, 1);
    townFault("town 2    9", 10, 1);
    townFault("town 8 1;bridge 7 10", 18, 1);
    townFault("town 2 1;person 10", 16, 1);
    townFault("town 2 1;person 0;want 0 0 0 99999", 29, 1);
  }

  private static void firstAlongTheText() {
    about("FAULTS, the first along the text");
    townFault("town 1 9;town", 5, 1);
    townFault("town 2 9;town;!", 7, 1);
    townFault("town 2 1;bridge 2 2", 16, 1);
    townFault("town 2 1;frost 100 0", 15, 1);
    townFault("town 2 1;crossed 5 5 5", 17, 1);
    townFault("town 2 1;person 0;want 1 9 100 0", 23, 1);
    townFault("town 2 1;person 5;town 2 1", 16, 1);
    townFault("town 2 1;town 2 1;person 5", 9, 4);
    townFault("bridge 0 0;town 1 1", 0, 4);
    townFault("town 2 x;town 2 1", 7, 0);
    ruleFault("cross 100000 100000", 6, 1);
    ruleFault("cross 1 x 100000", 8, 0);
    ruleFault("cross 1 if " + times("[", 11) + "100000", 21, 2);
    ruleFault("cross 1 if 100000=" + times("[", 11), 11, 1);
    ruleFault("cross 1" + times("+1", 60) + "+100000", 126, 3);
    ruleFault("cross 1" + times("+1", 60) + ";cros", 126, 3);
    ruleFault(times("cross 1;", 12) + "cross 100000", 96, 4);
    ruleFault(times("cross 1;", 11) + "cross 100000;cross 1", 94, 1);
  }

  private static void leastOfOnePlace() {
    about("Of one place the least");
    String sixty = "cross 1" + times("+1", 59);
    ruleFault(sixty + "+", sixty.length() + 1, 0);
    ruleFault(sixty + "+x", sixty.length() + 1, 0);
    ruleFault(sixty + "+lefty", sixty.length() + 1, 0);
    ruleFault(sixty + "+[", sixty.length() + 1, 0);
    ruleFault(sixty + "+100000", sixty.length() + 1, 1);
    ruleFault(sixty + "+000001", sixty.length() + 1, 1);
    ruleFault("cross 1" + times("+1", 58) + " if 1!", 128, 0);
    ruleFault(times("cross 1;", 12) + "crosss 1", 96, 0);
    ruleFault(times("cross 1;", 12) + ";", 96, 0);
    ruleFault(times("cross 1;", 12) + "7", 96, 0);
    ruleFault("cross 1 if " + times("not ", 10) + "nots 1=1", 51, 0);
    ruleFault("cross 1 if " + times("[", 10) + "]", 21, 0);
    townFault("bridgee 0 1;town 2 1", 0, 0);
    townFault("town 2 1;towns 2 1", 9, 0);
    String nine = "town 2 1" + times(";bridge 0 1", 9);
    townFault(nine + ";bridges", nine.length() + 1, 0);
    townFault(nine + ";100000", nine.length() + 1, 0);
    townFault("town 2 1 100000", 9, 0);
    ruleFault("cross 1 100000", 8, 0);
    ruleFault("cross 1 if 1=1 100000", 15, 0);
    ruleFault(sixty + " 1", sixty.length() + 1, 0);
    townFault(nine + ";", nine.length() + 1, 0);
  }
}
