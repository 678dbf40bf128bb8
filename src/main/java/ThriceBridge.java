import java.util.Arrays;

/**
 * A town whose bridges let everybody over so many times and no more.
 * What each call answers is told, promise by promise, in DOC.md.
 */
public final class ThriceBridge {
    public static final int NONE = -1;

    /** Asked for rightly, but there is no way to do it, or not so many of them. */
    private static final int CANNOT = -2;
    /** Asked for wrongly, where NONE and CANNOT are answers already. */
    private static final int WRONG = -3;
    private static final int TOO_MANY_CROSSINGS = -3;

    private static final int MOST_BRIDGES = 9;
    private static final int MOST_PEOPLE = 4;
    private static final int MOST_QUARTERS = 8;
    private static final int MOST_RULES = 6;
    private static final int MOST_IMAGES = 4;
    private static final int MOST_UNDONE = 20;
    private static final int MOST_DAYS_RUN = 60;
    private static final int MOST_LIVES = 10;
    private static final int MOST_DAYS_PLANNED = 6;
    private static final int MOST_CROSSINGS_SEEN = 8;
    private static final int LAST_DAY = 999;
    private static final int FAR = 99;

    private final Tape tape = new Tape();
    private final Rule[] rules = new Rule[MOST_RULES];
    private int ruleCount = 0;
    private final Standing now;
    private final Standing trial;
    private final Standing[] past = new Standing[MOST_UNDONE];
    private int pastFirst = 0;
    private int pastCount = 0;
    private final Image[] images = new Image[MOST_IMAGES];
    /** The x of the draws. */
    private long drawn = 0;
    private final Plan plan;
    private final Walk walk;
    private final Story story;
    private final long[] words = new long[Rule.WORD_COUNT];
    private final int[] near = new int[MOST_QUARTERS];
    private final int[] far = new int[MOST_QUARTERS];
    private final int[] reaches = new int[MOST_PEOPLE];
    private final int[] hands = new int[MOST_PEOPLE];

    public ThriceBridge() {
        Town none = new Town();
        now = new Standing(none);
        trial = new Standing(none);
        plan = new Plan(none);
        walk = new Walk(none.bridges);
        story = new Story(none.bridges);
        for (int i = 0; i < MOST_RULES; i++) {
            rules[i] = new Rule();
        }
        for (int i = 0; i < MOST_UNDONE; i++) {
            past[i] = new Standing(none);
        }
        for (int i = 0; i < MOST_IMAGES; i++) {
            images[i] = new Image(none);
        }
    }

    // ---- the tape, and what is told on it

    public int feed(int a, int b, int c, int d, int e) {
        if (tape.length + 20 > Tape.MOST) {
            return NONE;
        }
        tape.put(a);
        tape.put(b);
        tape.put(c);
        tape.put(d);
        tape.put(e);
        return tape.length;
    }

    public int end(int n) {
        if (n < 0 || n > tape.length) {
            return NONE;
        }
        tape.length = n;
        return n;
    }

    public int town() {
        Town told = new Town();
        told.read(tape);
        tape.length = 0;
        if (tape.fault != 0) {
            return -2 - tape.fault;
        }
        now.startIn(told);
        forgetActs();
        return told.bridges.size;
    }

    public int rule() {
        if (ruleCount >= MOST_RULES) {
            return NONE;
        }
        rules[ruleCount].read(tape);
        tape.length = 0;
        if (tape.fault != 0) {
            return -2 - tape.fault;
        }
        ruleCount++;
        return ruleCount - 1;
    }

    // ---- what there is

    public int person(int person, int what) {
        if (!isPerson(person)) {
            return NONE;
        }
        switch (what) {
            case 0: return now.at[person];
            case 1: return now.town.homes[person];
            case 2: return now.paid[person];
            case 3: return now.reachOf(person, NONE);
            case 4: return now.lostBy(person);
            case 5: return now.goalOf(person);
            default: return NONE;
        }
    }

    public int left(int person, int bridge) {
        if (!isPerson(person) || !isBridge(bridge)) {
            return NONE;
        }
        return now.leftTo(person, bridge);
    }

    public int bridge(int bridge, int what) {
        if (!isBridge(bridge)) {
            return NONE;
        }
        switch (what) {
            case 0: return now.town.bridges.one[bridge];
            case 1: return now.town.bridges.two[bridge];
            case 2: return now.crossedByAll(bridge);
            default: return NONE;
        }
    }

    public int count(int what) {
        Town town = now.town;
        switch (what) {
            case 0: return town.quarters;
            case 1: return town.times;
            case 2: return town.bridges.size;
            case 3: return town.ferries.size;
            case 4: return town.people;
            case 5: return town.wants;
            case 6: return ruleCount;
            case 7: return now.day;
            case 8: return now.isFrosty() ? 1 : 0;
            case 9: return now.paidToAll();
            case 10: return now.whoIsHome();
            case 11: return pastCount;
            case 12: return (int) drawn;
            case 13: return tape.length;
            default: return NONE;
        }
    }

    // ---- acts, and how they are undone

    public int cross(int person, int bridge) {
        if (!isPerson(person) || !isBridge(bridge) || !now.canCross(person, bridge)) {
            return NONE;
        }
        keepAct();
        now.goOver(person, bridge);
        return now.at[person];
    }

    public int sail(int person, int ferry) {
        Links ferries = now.town.ferries;
        if (!isPerson(person) || ferry < 0 || ferry >= ferries.size || now.isFrosty()) {
            return NONE;
        }
        int landing = ferries.across(ferry, now.at[person]);
        if (landing == NONE) {
            return NONE;
        }
        keepAct();
        now.at[person] = landing;
        return landing;
    }

    public int carry(int person, int asleep, int bridge) {
        if (!arePair(person, asleep) || !isBridge(bridge)) {
            return NONE;
        }
        if (now.at[person] != now.at[asleep] || !now.canCross(person, bridge)) {
            return NONE;
        }
        keepAct();
        now.goOver(person, bridge);
        now.at[asleep] = now.at[person];
        return now.at[person];
    }

    public int rebuild(int bridge) {
        if (!isBridge(bridge)) {
            return NONE;
        }
        int crossings = now.crossedByAll(bridge);
        if (crossings == 0) {
            return NONE;
        }
        keepAct();
        now.forget(bridge);
        return crossings;
    }

    public int day() {
        if (!hasTown() || now.day >= LAST_DAY) {
            return NONE;
        }
        keepAct();
        return now.endDay();
    }

    public int undo() {
        if (pastCount == 0) {
            return NONE;
        }
        pastCount--;
        now.copy(past[(pastFirst + pastCount) % MOST_UNDONE]);
        return pastCount;
    }

    public int run(int rule, int n) {
        if (!hasTown() || rule < 0 || rule >= ruleCount || n < 1 || n > MOST_DAYS_RUN) {
            return NONE;
        }
        if (now.day + n > LAST_DAY) {
            return NONE;
        }
        forgetActs();
        int pay = 0;
        for (int i = 0; i < n; i++) {
            for (int person = 0; person < now.town.people; person++) {
                obey(rules[rule], person);
            }
            pay += now.endDay();
        }
        return pay;
    }

    // ---- what can still be

    public int way(int person, int quarter, int what) {
        if (!isPerson(person) || quarter < 0 || quarter >= now.town.quarters || what < 0 || what > 1) {
            return WRONG;
        }
        now.measure(person, quarter, near);
        int steps = near[now.at[person]];
        if (steps == FAR) {
            return CANNOT;
        }
        return what == 0 ? steps : now.firstStep(person, near);
    }

    public int life(int person, int n, int what) {
        if (!canPlan(person, n) || what < 0 || what > MOST_DAYS_PLANNED) {
            return WRONG;
        }
        plan.prepare(now, person, n);
        plan.solve();
        if (plan.most < 0 || what > n) {
            return CANNOT;
        }
        return what == 0 ? plan.most : plan.bestRow[what - 1];
    }

    public int worth(int person, int bridge, int n) {
        if (!canPlan(person, n) || !isBridge(bridge)) {
            return NONE;
        }
        int before = earnedWithExtra(person, n, 0);
        return earnedWithExtra(person, n, 1 << bridge) - before;
    }

    public int more(int person, int n) {
        if (!canPlan(person, n)) {
            return NONE;
        }
        int before = earnedWithExtra(person, n, 0);
        return earnedWithExtra(person, n, (1 << now.town.bridges.size) - 1) - before;
    }

    public int meet(int one, int other, int what) {
        if (!arePair(one, other) || what < 0 || what > 1) {
            return NONE;
        }
        now.measure(one, now.at[one], near);
        now.measure(other, now.at[other], far);
        int best = CANNOT;
        for (int quarter = 0; quarter < now.town.quarters; quarter++) {
            if (near[quarter] < FAR && far[quarter] < FAR && (best < 0 || isBetterPlace(quarter, best))) {
                best = quarter;
            }
        }
        return best < 0 || what == 0 ? best : near[best] + far[best];
    }

    public int best(int what) {
        if (!hasTown() || what < 0 || what > 2) {
            return NONE;
        }
        findReaches();
        int best = CANNOT;
        int most = 0;
        for (int bridge = 0; bridge < now.town.bridges.size; bridge++) {
            int growth = growthBy(bridge);
            if (growth > most) {
                best = bridge;
                most = growth;
            }
        }
        if (what == 0) {
            return best;
        }
        return what == 1 ? most : whoGainsBy(best);
    }

    public int alone() {
        if (!hasTown()) {
            return NONE;
        }
        findReaches();
        int bits = 0;
        for (int person = 0; person < now.town.people; person++) {
            if (!isInReachOfOthers(person)) {
                bits |= 1 << person;
            }
        }
        return bits;
    }

    public int letter(int from, int to, int what) {
        if (!arePair(from, to) || what < 0 || what > 2) {
            return NONE;
        }
        findReaches();
        findHands(to);
        if (hands[from] == FAR) {
            return CANNOT;
        }
        int between = hands[from] - 1;
        if (what == 0) {
            return between;
        }
        return what > between ? CANNOT : holderAfter(from, what);
    }

    public int came(int person, int what) {
        if (!isPerson(person) || what < 0 || what > 2) {
            return NONE;
        }
        if (!story.prepare(now, person)) {
            return TOO_MANY_CROSSINGS;
        }
        story.tell();
        switch (what) {
            case 0: return story.rowCount();
            case 1: return story.lastOnes();
            default: return story.lastOfFirst();
        }
    }

    public int trail(int person, int what) {
        if (!isPerson(person) || what < 0 || what > 1) {
            return NONE;
        }
        walk.start(now, person);
        return what == 0 ? walk.longest : walk.finish;
    }

    // ---- lives by draws

    public int seed(int x) {
        if (x < 0) {
            return NONE;
        }
        int before = (int) drawn;
        drawn = x;
        return before;
    }

    public int lives(int m, int n, int what) {
        if (!hasTown() || m < 1 || m > MOST_LIVES || n < 1 || n > MOST_DAYS_RUN || what < 0 || what > 1) {
            return NONE;
        }
        long before = drawn;
        int crossings = 0;
        int pay = 0;
        for (int i = 0; i < m; i++) {
            trial.copy(now);
            for (int j = 0; j < n; j++) {
                crossings += wanderByDraws();
                pay += trial.endDay();
            }
        }
        drawn = before;
        return what == 0 ? crossings : pay;
    }

    // ---- images

    public int image(int k) {
        if (k < 0 || k >= MOST_IMAGES) {
            return NONE;
        }
        images[k].made = true;
        images[k].standing.copy(now);
        images[k].drawn = drawn;
        return now.day;
    }

    public int back(int k) {
        if (k < 0 || k >= MOST_IMAGES || !images[k].made) {
            return NONE;
        }
        now.copy(images[k].standing);
        drawn = images[k].drawn;
        forgetActs();
        return now.day;
    }

    // ---- helpers of the calls

    private boolean hasTown() {
        return now.town.quarters > 0;
    }

    private boolean isPerson(int person) {
        return person >= 0 && person < now.town.people;
    }

    private boolean arePair(int one, int other) {
        return isPerson(one) && isPerson(other) && one != other;
    }

    private boolean isBridge(int bridge) {
        return bridge >= 0 && bridge < now.town.bridges.size;
    }

    private boolean canPlan(int person, int n) {
        return isPerson(person) && n >= 1 && n <= MOST_DAYS_PLANNED;
    }

    private void forgetActs() {
        pastFirst = 0;
        pastCount = 0;
    }

    /** Keeps how all stands ahead of an act; the oldest is given up when there is no room. */
    private void keepAct() {
        past[(pastFirst + pastCount) % MOST_UNDONE].copy(now);
        if (pastCount < MOST_UNDONE) {
            pastCount++;
        } else {
            pastFirst = (pastFirst + 1) % MOST_UNDONE;
        }
    }

    private void obey(Rule rule, int person) {
        int chosen = NONE;
        long most = 0;
        int want = now.nextWant(person);
        for (int bridge = 0; bridge < now.town.bridges.size; bridge++) {
            if (now.canCross(person, bridge)) {
                now.tellWords(person, bridge, want, words);
                long value = rule.valueFor(words);
                if (value > most) {
                    most = value;
                    chosen = bridge;
                }
            }
        }
        if (chosen != NONE) {
            now.goOver(person, chosen);
        }
    }

    /** What LIFE earns when each bridge in the bits lets over once more. */
    private int earnedWithExtra(int person, int n, int bits) {
        plan.prepare(now, person, n);
        plan.giveMore(bits);
        plan.solve();
        return Math.max(plan.most, 0);
    }

    private boolean isBetterPlace(int quarter, int than) {
        int sum = near[quarter] + far[quarter];
        int sumThan = near[than] + far[than];
        if (sum != sumThan) {
            return sum < sumThan;
        }
        return Math.max(near[quarter], far[quarter]) < Math.max(near[than], far[than]);
    }

    private int growthBy(int bridge) {
        int growth = 0;
        for (int person = 0; person < now.town.people; person++) {
            growth += Integer.bitCount(now.reachOf(person, bridge) & ~reaches[person]);
        }
        return growth;
    }

    private int whoGainsBy(int bridge) {
        int bits = 0;
        for (int person = 0; person < now.town.people; person++) {
            if (now.reachOf(person, bridge) != reaches[person]) {
                bits |= 1 << person;
            }
        }
        return bits;
    }

    private void findReaches() {
        for (int person = 0; person < now.town.people; person++) {
            reaches[person] = now.reachOf(person, NONE);
        }
    }

    private boolean isInReachOfOthers(int person) {
        for (int other = 0; other < now.town.people; other++) {
            if (other != person && (reaches[other] >> now.at[person] & 1) != 0) {
                return true;
            }
        }
        return false;
    }

    private boolean canMeet(int one, int other) {
        return (reaches[one] & reaches[other]) != 0;
    }

    /** By how few handings a letter comes from each to the one it is for. */
    private void findHands(int to) {
        Arrays.fill(hands, FAR);
        hands[to] = 0;
        for (int round = 1; round < now.town.people; round++) {
            for (int giver = 0; giver < now.town.people; giver++) {
                for (int taker = 0; taker < now.town.people; taker++) {
                    if (hands[taker] == round - 1 && hands[giver] == FAR && canMeet(giver, taker)) {
                        hands[giver] = round;
                    }
                }
            }
        }
    }

    private int holderAfter(int from, int handings) {
        int holder = from;
        for (int i = 0; i < handings; i++) {
            holder = nextHolder(holder);
        }
        return holder;
    }

    private int nextHolder(int holder) {
        for (int taker = 0; taker < now.town.people; taker++) {
            if (hands[taker] == hands[holder] - 1 && canMeet(holder, taker)) {
                return taker;
            }
        }
        return holder;
    }

    private int drawBelow(int bound) {
        drawn = (drawn * 1103515245L + 12345L) & 2147483647L;
        return bound > 0 ? (int) (drawn / 65536) % bound : 0;
    }

    /** One day of all people, each by a draw: how many crossed. */
    private int wanderByDraws() {
        int crossings = 0;
        int bridges = trial.town.bridges.size;
        for (int person = 0; person < trial.town.people; person++) {
            int bridge = drawBelow(bridges + 1);
            if (bridge < bridges && trial.canCross(person, bridge)) {
                trial.goOver(person, bridge);
                crossings++;
            }
        }
        return crossings;
    }

    /** The bytes fed, and a walk along them that goes no further than the first fault. */
    private static final class Tape {
        static final int MOST = 400;
        static final int END = -1;
        static final int MOST_DIGITS = 5;
        static final int MISPLACED = 0;
        static final int BAD_NUMBER = 1;
        static final int TOO_DEEP = 2;
        static final int TOO_LONG = 3;
        static final int BAD_CLAUSE = 4;

        final byte[] bytes = new byte[MOST];
        int length = 0;
        int place = 0;
        /** Where the word or number begins that was read last. */
        int start = 0;
        int fault = 0;

        void put(int number) {
            for (int shift = 24; shift >= 0 && length < MOST; shift -= 8) {
                bytes[length] = (byte) (number >> shift);
                length++;
            }
        }

        void begin() {
            place = 0;
            start = 0;
            fault = 0;
        }

        void fail(int where, int kind) {
            if (fault == 0) {
                fault = 1 + 8 * where + kind;
            }
        }

        /** The byte that stands next behind blanks, or END. */
        int next() {
            while (place < length && bytes[place] == ' ') {
                place++;
            }
            return place < length ? bytes[place] & 255 : END;
        }

        boolean takeSign(char sign) {
            if (fault != 0 || next() != sign) {
                return false;
            }
            place++;
            return true;
        }

        boolean takeWord(String word) {
            if (fault != 0 || !seesWord(word)) {
                return false;
            }
            start = place;
            place += word.length();
            return true;
        }

        boolean seesWord(String word) {
            next();
            return isSame(word, 0, word.length(), wordEnd());
        }

        /** Which of the words, parted by single blanks, stands next; a fault if none does. */
        int word(String list) {
            if (fault != 0) {
                return NONE;
            }
            next();
            start = place;
            int stop = wordEnd();
            int number = 0;
            int from = 0;
            while (from < list.length()) {
                int to = from;
                while (to < list.length() && list.charAt(to) != ' ') {
                    to++;
                }
                if (isSame(list, from, to, stop)) {
                    place = stop;
                    return number;
                }
                number++;
                from = to + 1;
            }
            fail(start, MISPLACED);
            return NONE;
        }

        int number(int low, int high) {
            if (fault != 0) {
                return low;
            }
            next();
            start = place;
            int value = 0;
            while (place < length && isDigit(bytes[place])) {
                if (place - start < MOST_DIGITS) {
                    value = value * 10 + bytes[place] - '0';
                }
                place++;
            }
            if (place == start) {
                fail(start, MISPLACED);
            } else if (place - start > MOST_DIGITS || value < low || value > high) {
                fail(start, BAD_NUMBER);
            }
            return value;
        }

        /** Whether one more clause is told; a fault if neither that nor the end comes. */
        boolean takeNextClause() {
            if (fault != 0) {
                return false;
            }
            int sign = next();
            if (sign == ';') {
                place++;
                return true;
            }
            if (sign != END) {
                fail(place, MISPLACED);
            }
            return false;
        }

        static boolean isDigit(int sign) {
            return sign >= '0' && sign <= '9';
        }

        private int wordEnd() {
            int stop = place;
            while (stop < length && bytes[stop] >= 'a' && bytes[stop] <= 'z') {
                stop++;
            }
            return stop;
        }

        private boolean isSame(String list, int from, int to, int stop) {
            if (to - from != stop - place) {
                return false;
            }
            for (int i = from; i < to; i++) {
                if (list.charAt(i) != bytes[place + i - from]) {
                    return false;
                }
            }
            return true;
        }
    }

    /** Bridges or ferries: each with the two quarters that it links. */
    private static final class Links {
        final int[] one;
        final int[] two;
        /** The links ahead of each that have the same quarters, as bits. */
        final int[] twins;
        int size = 0;

        Links(int most) {
            int room = Math.max(most, 1);
            one = new int[room];
            two = new int[room];
            twins = new int[room];
        }

        boolean isFull() {
            return size >= one.length;
        }

        void add(int first, int second) {
            if (isFull()) {
                return;
            }
            one[size] = first;
            two[size] = second;
            twins[size] = 0;
            for (int i = 0; i < size; i++) {
                if (across(i, first) == second) {
                    twins[size] |= 1 << i;
                }
            }
            size++;
        }

        /** Where one comes by a link from a quarter, NONE if it isn't there. */
        int across(int link, int quarter) {
            if (one[link] == quarter) {
                return two[link];
            }
            return two[link] == quarter ? one[link] : NONE;
        }

        /**
         * Whether a link is the first with anything left among those of the same
         * quarters. The first row of all never takes another of them, so that
         * searches may pass these over.
         */
        boolean isFirstOpen(int link, int[] left) {
            if (left[link] <= 0) {
                return false;
            }
            if (twins[link] == 0) {
                return true;
            }
            for (int i = 0; i < link; i++) {
                if ((twins[link] >> i & 1) != 0 && left[i] > 0) {
                    return false;
                }
            }
            return true;
        }
    }

    /** A town as it was told; without quarters there is none. Nothing changes it once it was read. */
    private static final class Town {
        static final String CLAUSES = "town bridge ferry frost person crossed want";
        static final int CLAUSE_TOWN = 0;
        static final int CLAUSE_BRIDGE = 1;
        static final int CLAUSE_FERRY = 2;
        static final int CLAUSE_FROST = 3;
        static final int CLAUSE_PERSON = 4;
        static final int CLAUSE_CROSSED = 5;
        static final int CLAUSE_WANT = 6;
        static final int MOST_CLAUSES = 40;
        static final int MOST_FERRIES = 4;
        static final int MOST_FROSTS = 4;
        static final int MOST_WANTS = 8;
        static final int LAST_TOLD_DAY = 99;

        int quarters = 0;
        int times = 0;
        final Links bridges = new Links(MOST_BRIDGES);
        final Links ferries = new Links(MOST_FERRIES);
        int frosts = 0;
        final int[] frostFirst = new int[MOST_FROSTS];
        final int[] frostLast = new int[MOST_FROSTS];
        int people = 0;
        final int[] homes = new int[MOST_PEOPLE];
        final int[] told = new int[MOST_PEOPLE * MOST_BRIDGES];
        int wants = 0;
        final int[] wantPerson = new int[MOST_WANTS];
        final int[] wantQuarter = new int[MOST_WANTS];
        final int[] wantDay = new int[MOST_WANTS];
        final int[] wantPay = new int[MOST_WANTS];
        /** By how few bridges one comes from quarter to quarter, all bridges taken. */
        final int[] steps = new int[MOST_QUARTERS * MOST_QUARTERS];

        void read(Tape tape) {
            tape.begin();
            boolean going = true;
            for (int clause = 0; going && clause <= MOST_CLAUSES; clause++) {
                readClause(tape, clause);
                going = tape.takeNextClause();
            }
            if (tape.fault == 0) {
                findSteps();
            }
        }

        private void readClause(Tape tape, int clause) {
            int kind = tape.word(CLAUSES);
            if (tape.fault != 0) {
                return;
            }
            if (clause >= MOST_CLAUSES || (kind == CLAUSE_TOWN) != (clause == 0) || isFull(kind)) {
                tape.fail(tape.start, Tape.BAD_CLAUSE);
                return;
            }
            switch (kind) {
                case CLAUSE_TOWN:
                    quarters = tape.number(2, MOST_QUARTERS);
                    times = tape.number(1, 5);
                    break;
                case CLAUSE_BRIDGE:
                    readLink(tape, bridges);
                    break;
                case CLAUSE_FERRY:
                    readLink(tape, ferries);
                    break;
                case CLAUSE_FROST:
                    readFrost(tape);
                    break;
                case CLAUSE_PERSON:
                    readPerson(tape);
                    break;
                case CLAUSE_CROSSED:
                    readCrossed(tape);
                    break;
                default:
                    readWant(tape);
                    break;
            }
        }

        private boolean isFull(int kind) {
            switch (kind) {
                case CLAUSE_BRIDGE: return bridges.isFull();
                case CLAUSE_FERRY: return ferries.isFull();
                case CLAUSE_FROST: return frosts >= MOST_FROSTS;
                case CLAUSE_PERSON: return people >= MOST_PEOPLE;
                case CLAUSE_WANT: return wants >= MOST_WANTS;
                default: return false;
            }
        }

        private void readLink(Tape tape, Links links) {
            int first = tape.number(0, quarters - 1);
            int second = tape.number(0, quarters - 1);
            if (tape.fault == 0 && first == second) {
                tape.fail(tape.start, Tape.BAD_NUMBER);
            }
            if (tape.fault == 0) {
                links.add(first, second);
            }
        }

        private void readFrost(Tape tape) {
            int first = tape.number(0, LAST_TOLD_DAY);
            int last = tape.number(first, LAST_TOLD_DAY);
            if (tape.fault == 0) {
                frostFirst[frosts] = first;
                frostLast[frosts] = last;
                frosts++;
            }
        }

        private void readPerson(Tape tape) {
            int home = tape.number(0, quarters - 1);
            if (tape.fault == 0) {
                homes[people] = home;
                people++;
            }
        }

        private void readCrossed(Tape tape) {
            int person = tape.number(0, people - 1);
            int bridge = tape.number(0, bridges.size - 1);
            int often = tape.number(0, times);
            if (tape.fault == 0) {
                told[person * MOST_BRIDGES + bridge] = often;
            }
        }

        private void readWant(Tape tape) {
            int person = tape.number(0, people - 1);
            int quarter = tape.number(0, quarters - 1);
            int day = tape.number(0, LAST_TOLD_DAY);
            int pay = tape.number(1, 50);
            if (tape.fault == 0) {
                wantPerson[wants] = person;
                wantQuarter[wants] = quarter;
                wantDay[wants] = day;
                wantPay[wants] = pay;
                wants++;
            }
        }

        private void findSteps() {
            Arrays.fill(steps, FAR);
            for (int from = 0; from < quarters; from++) {
                steps[from * MOST_QUARTERS + from] = 0;
                for (int round = 1; round < quarters; round++) {
                    for (int bridge = 0; bridge < bridges.size; bridge++) {
                        shorten(from, bridges.one[bridge], bridges.two[bridge]);
                        shorten(from, bridges.two[bridge], bridges.one[bridge]);
                    }
                }
            }
        }

        private void shorten(int from, int here, int there) {
            int row = from * MOST_QUARTERS;
            if (steps[row + here] + 1 < steps[row + there]) {
                steps[row + there] = steps[row + here] + 1;
            }
        }

        int nearer(int from, int to, int goal) {
            int here = steps[from * MOST_QUARTERS + goal];
            return here == FAR ? FAR : here - steps[to * MOST_QUARTERS + goal];
        }
    }

    /** How all stands in a town: what acts change and what undoing brings back. */
    private static final class Standing {
        Town town;
        int day = 0;
        final int[] at = new int[MOST_PEOPLE];
        final int[] paid = new int[MOST_PEOPLE];
        /** As the bridges remember it, with what was told of the time ahead of the text. */
        final int[] crossed = new int[MOST_PEOPLE * MOST_BRIDGES];
        /** The same, but without what was told. */
        final int[] crossedSince = new int[MOST_PEOPLE * MOST_BRIDGES];

        Standing(Town none) {
            town = none;
        }

        void startIn(Town told) {
            town = told;
            day = 0;
            System.arraycopy(told.homes, 0, at, 0, at.length);
            System.arraycopy(told.told, 0, crossed, 0, crossed.length);
            Arrays.fill(paid, 0);
            Arrays.fill(crossedSince, 0);
        }

        void copy(Standing other) {
            town = other.town;
            day = other.day;
            System.arraycopy(other.at, 0, at, 0, at.length);
            System.arraycopy(other.paid, 0, paid, 0, paid.length);
            System.arraycopy(other.crossed, 0, crossed, 0, crossed.length);
            System.arraycopy(other.crossedSince, 0, crossedSince, 0, crossedSince.length);
        }

        int leftTo(int person, int bridge) {
            return town.times - crossed[person * MOST_BRIDGES + bridge];
        }

        void tellLeft(int person, int[] left) {
            for (int bridge = 0; bridge < town.bridges.size; bridge++) {
                left[bridge] = leftTo(person, bridge);
            }
        }

        int lostBy(int person) {
            int bits = 0;
            for (int bridge = 0; bridge < town.bridges.size; bridge++) {
                if (leftTo(person, bridge) == 0) {
                    bits |= 1 << bridge;
                }
            }
            return bits;
        }

        int crossedByAll(int bridge) {
            int sum = 0;
            for (int person = 0; person < town.people; person++) {
                sum += crossed[person * MOST_BRIDGES + bridge];
            }
            return sum;
        }

        boolean canCross(int person, int bridge) {
            return town.bridges.across(bridge, at[person]) != NONE && leftTo(person, bridge) > 0;
        }

        void goOver(int person, int bridge) {
            at[person] = town.bridges.across(bridge, at[person]);
            crossed[person * MOST_BRIDGES + bridge]++;
            crossedSince[person * MOST_BRIDGES + bridge]++;
        }

        void forget(int bridge) {
            for (int person = 0; person < town.people; person++) {
                crossed[person * MOST_BRIDGES + bridge] = 0;
                crossedSince[person * MOST_BRIDGES + bridge] = 0;
            }
        }

        int endDay() {
            int pay = 0;
            for (int want = 0; want < town.wants; want++) {
                int person = town.wantPerson[want];
                if (town.wantDay[want] == day && at[person] == town.wantQuarter[want]) {
                    paid[person] += town.wantPay[want];
                    pay += town.wantPay[want];
                }
            }
            day = Math.min(day + 1, LAST_DAY);
            return pay;
        }

        boolean isFrosty() {
            for (int frost = 0; frost < town.frosts; frost++) {
                if (day >= town.frostFirst[frost] && day <= town.frostLast[frost]) {
                    return true;
                }
            }
            return false;
        }

        int paidToAll() {
            int sum = 0;
            for (int person = 0; person < town.people; person++) {
                sum += paid[person];
            }
            return sum;
        }

        int whoIsHome() {
            int bits = 0;
            for (int person = 0; person < town.people; person++) {
                if (at[person] == town.homes[person]) {
                    bits |= 1 << person;
                }
            }
            return bits;
        }

        int nextWant(int person) {
            int next = NONE;
            for (int want = 0; want < town.wants; want++) {
                if (town.wantPerson[want] == person && town.wantDay[want] >= day
                        && (next == NONE || town.wantDay[want] < town.wantDay[next])) {
                    next = want;
                }
            }
            return next;
        }

        int goalOf(int person) {
            int want = nextWant(person);
            return want == NONE ? town.homes[person] : town.wantQuarter[want];
        }

        /** The words of a rule, in the order of Rule.WORDS, for a bridge that the person can cross. */
        void tellWords(int person, int bridge, int want, long[] words) {
            int from = at[person];
            int to = town.bridges.across(bridge, from);
            int goal = want == NONE ? town.homes[person] : town.wantQuarter[want];
            if (words.length < Rule.WORD_COUNT || to == NONE) {
                return;
            }
            words[0] = person;
            words[1] = bridge;
            words[2] = from;
            words[3] = to;
            words[4] = town.homes[person];
            words[5] = leftTo(person, bridge);
            words[6] = day;
            words[7] = goal;
            words[8] = want == NONE ? 0 : town.wantPay[want];
            words[9] = want == NONE ? 0 : town.wantDay[want] - day;
            words[10] = town.nearer(from, to, goal);
            words[11] = othersIn(from) - 1;
        }

        private int othersIn(int quarter) {
            int sum = 0;
            for (int person = 0; person < town.people; person++) {
                if (at[person] == quarter) {
                    sum++;
                }
            }
            return sum;
        }

        /** Quarters as bits; a rebuilt bridge (or NONE) counts as open. */
        int reachOf(int person, int rebuilt) {
            int reach = 1 << at[person];
            for (int round = 1; round < town.quarters; round++) {
                int before = reach;
                for (int bridge = 0; bridge < town.bridges.size; bridge++) {
                    int ends = 1 << town.bridges.one[bridge] | 1 << town.bridges.two[bridge];
                    if ((reach & ends) != 0 && (bridge == rebuilt || leftTo(person, bridge) > 0)) {
                        reach |= ends;
                    }
                }
                if (reach == before) {
                    break;
                }
            }
            return reach;
        }

        /** By how few crossings a person comes from one quarter to each, by what is left to them. */
        void measure(int person, int from, int[] steps) {
            Arrays.fill(steps, FAR);
            steps[from] = 0;
            for (int round = 1; round < town.quarters; round++) {
                for (int bridge = 0; bridge < town.bridges.size; bridge++) {
                    if (leftTo(person, bridge) > 0) {
                        int one = town.bridges.one[bridge];
                        int two = town.bridges.two[bridge];
                        steps[one] = Math.min(steps[one], steps[two] + 1);
                        steps[two] = Math.min(steps[two], steps[one] + 1);
                    }
                }
            }
        }

        /** The first bridge of the first shortest row, when steps tells how far the end is. */
        int firstStep(int person, int[] steps) {
            int from = at[person];
            for (int bridge = 0; bridge < town.bridges.size; bridge++) {
                if (canCross(person, bridge)
                        && steps[town.bridges.across(bridge, from)] == steps[from] - 1) {
                    return bridge;
                }
            }
            return NONE;
        }
    }

    /** A rule, kept as rows of signs behind their values, so that a stack can reckon it. */
    private static final class Rule {
        static final String WORDS = "person bridge from to home left day goal pay until nearer people";
        static final int WORD_COUNT = 12;
        static final int MOST_CLAUSES = 12;
        static final int MOST_DEEP = 10;
        static final int MOST_PARTS = 60;
        static final int PUSH_NUMBER = 0;
        static final int PUSH_WORD = 1;
        static final int NOT = 2;

        final int[] codes = new int[Tape.MOST];
        final int[] operands = new int[Tape.MOST];
        final int[] sumFrom = new int[MOST_CLAUSES];
        final int[] testFrom = new int[MOST_CLAUSES];
        final int[] testTo = new int[MOST_CLAUSES];
        final long[] stack = new long[MOST_PARTS];
        int size = 0;
        int clauses = 0;
        int parts = 0;

        void read(Tape tape) {
            tape.begin();
            size = 0;
            clauses = 0;
            parts = 0;
            boolean going = true;
            for (int clause = 0; going && clause <= MOST_CLAUSES; clause++) {
                tape.word("cross");
                if (clause < MOST_CLAUSES) {
                    sumFrom[clause] = size;
                    readSum(tape);
                    testFrom[clause] = size;
                    if (tape.takeWord("if")) {
                        readTest(tape, 0);
                    }
                    testTo[clause] = size;
                    clauses++;
                } else {
                    tape.fail(tape.start, Tape.BAD_CLAUSE);
                }
                going = tape.takeNextClause();
            }
        }

        /** An or waits until the ands behind it are told, as these hold closer. */
        private void readTest(Tape tape, int depth) {
            readFact(tape, depth);
            boolean either = false;
            boolean going = true;
            for (int i = 0; going && i < Tape.MOST; i++) {
                if (tape.takeWord("and")) {
                    readFact(tape, depth);
                    emit('&', 0);
                } else if (tape.takeWord("or")) {
                    if (either) {
                        emit('|', 0);
                    }
                    either = true;
                    readFact(tape, depth);
                } else {
                    going = false;
                }
            }
            if (either) {
                emit('|', 0);
            }
        }

        private void readFact(Tape tape, int depth) {
            if (tape.fault != 0) {
                return;
            }
            boolean opens = tape.next() == '[';
            if ((opens || tape.seesWord("not")) && depth >= MOST_DEEP) {
                tape.fail(tape.place, Tape.TOO_DEEP);
            } else if (tape.takeSign('[')) {
                readTest(tape, depth + 1);
                if (!tape.takeSign(']')) {
                    tape.fail(tape.place, Tape.MISPLACED);
                }
            } else if (tape.takeWord("not")) {
                readFact(tape, depth + 1);
                emit(NOT, 0);
            } else {
                readSum(tape);
                int sign = readSign(tape);
                readSum(tape);
                emit(sign, 0);
            }
        }

        /** '<', '=' or '>'; for <= and >= the letters l and g stand in. */
        private int readSign(Tape tape) {
            if (tape.fault != 0) {
                return NONE;
            }
            int sign = tape.next();
            int start = tape.place;
            if (sign != '<' && sign != '=' && sign != '>') {
                tape.fail(start, Tape.MISPLACED);
                return NONE;
            }
            countPart(tape, start);
            tape.place = start + 1;
            if (sign != '=' && tape.place < tape.length && tape.bytes[tape.place] == '=') {
                tape.place++;
                return sign == '<' ? 'l' : 'g';
            }
            return sign;
        }

        /** A + or - waits until the term behind it is told. */
        private void readSum(Tape tape) {
            readValue(tape);
            int waiting = NONE;
            boolean going = true;
            for (int i = 0; going && i < Tape.MOST; i++) {
                int sign = tape.next();
                if (tape.fault == 0 && (sign == '*' || sign == '/' || sign == '%')) {
                    tape.place++;
                    readValue(tape);
                    emit(sign, 0);
                } else if (tape.fault == 0 && (sign == '+' || sign == '-')) {
                    tape.place++;
                    if (waiting != NONE) {
                        emit(waiting, 0);
                    }
                    waiting = sign;
                    readValue(tape);
                } else {
                    going = false;
                }
            }
            if (waiting != NONE) {
                emit(waiting, 0);
            }
        }

        private void readValue(Tape tape) {
            if (tape.fault != 0) {
                return;
            }
            if (Tape.isDigit(tape.next())) {
                emit(PUSH_NUMBER, tape.number(0, 99999));
            } else {
                emit(PUSH_WORD, tape.word(WORDS));
            }
            countPart(tape, tape.start);
        }

        private void countPart(Tape tape, int where) {
            parts++;
            if (parts > MOST_PARTS) {
                tape.fail(where, Tape.TOO_LONG);
            }
        }

        private void emit(int code, int operand) {
            if (size < codes.length) {
                codes[size] = code;
                operands[size] = operand;
                size++;
            }
        }

        /** The sum of the first clause that holds, 0 if none does. */
        long valueFor(long[] words) {
            for (int clause = 0; clause < clauses; clause++) {
                int from = testFrom[clause];
                int to = testTo[clause];
                if (from == to || reckon(from, to, words) != 0) {
                    return reckon(sumFrom[clause], from, words);
                }
            }
            return 0;
        }

        private long reckon(int from, int to, long[] words) {
            int top = 0;
            for (int i = from; i < to; i++) {
                int code = codes[i];
                if (code == PUSH_NUMBER || code == PUSH_WORD) {
                    if (top < stack.length) {
                        stack[top] = pushed(i, words);
                        top++;
                    }
                } else if (code == NOT && top > 0) {
                    stack[top - 1] = stack[top - 1] == 0 ? 1 : 0;
                } else if (top > 1) {
                    top--;
                    stack[top - 1] = join(code, stack[top - 1], stack[top]);
                }
            }
            return top > 0 ? stack[0] : 0;
        }

        private long pushed(int i, long[] words) {
            int operand = operands[i];
            if (codes[i] == PUSH_NUMBER) {
                return operand;
            }
            return operand >= 0 && operand < words.length ? words[operand] : 0;
        }

        private static long join(int code, long a, long b) {
            switch (code) {
                case '+': return a + b;
                case '-': return a - b;
                case '*': return a * b;
                case '/': return b == 0 ? 0 : a / b;
                case '%': return b == 0 ? 0 : a % b;
                case '&': return a & b;
                case '|': return a | b;
                default: return compares(code, a, b) ? 1 : 0;
            }
        }

        private static boolean compares(int sign, long a, long b) {
            switch (sign) {
                case '<': return a < b;
                case 'l': return a <= b;
                case '=': return a == b;
                case 'g': return a >= b;
                default: return a > b;
            }
        }
    }

    /** LIFE: rows are searched in order, and those passed over that can't earn more than the best. */
    private static final class Plan {
        final int[] left = new int[MOST_BRIDGES];
        final int[] gains = new int[MOST_DAYS_PLANNED * MOST_QUARTERS];
        /** What could be earned at most from a day and quarter on; NONE: home is too far. */
        final int[] bounds = new int[(MOST_DAYS_PLANNED + 1) * MOST_QUARTERS];
        final int[] row = new int[MOST_DAYS_PLANNED];
        final int[] bestRow = new int[MOST_DAYS_PLANNED];
        Town town;
        int days = 0;
        int start = 0;
        int home = 0;
        /** What the best row earns; NONE: no row leads home. */
        int most = NONE;

        Plan(Town none) {
            town = none;
        }

        void prepare(Standing standing, int person, int n) {
            town = standing.town;
            days = n;
            start = standing.at[person];
            home = town.homes[person];
            standing.tellLeft(person, left);
            Arrays.fill(gains, 0);
            for (int want = 0; want < town.wants; want++) {
                int ahead = town.wantDay[want] - standing.day;
                if (town.wantPerson[want] == person && ahead >= 0 && ahead < n) {
                    gains[ahead * MOST_QUARTERS + town.wantQuarter[want]] += town.wantPay[want];
                }
            }
        }

        void giveMore(int bits) {
            for (int bridge = 0; bridge < town.bridges.size; bridge++) {
                left[bridge] += bits >> bridge & 1;
            }
        }

        void solve() {
            findBounds();
            most = NONE;
            if (bounds[start] != NONE) {
                search(0, start, 0);
            }
        }

        /** Bounds hold as if what is left were never used up. */
        private void findBounds() {
            for (int quarter = 0; quarter < town.quarters; quarter++) {
                bounds[days * MOST_QUARTERS + quarter] = quarter == home ? 0 : NONE;
            }
            for (int day = days - 1; day >= 0; day--) {
                for (int quarter = 0; quarter < town.quarters; quarter++) {
                    int bound = boundBy(day, quarter);
                    for (int bridge = 0; bridge < town.bridges.size; bridge++) {
                        int to = town.bridges.across(bridge, quarter);
                        if (to != NONE && left[bridge] > 0) {
                            bound = Math.max(bound, boundBy(day, to));
                        }
                    }
                    bounds[day * MOST_QUARTERS + quarter] = bound;
                }
            }
        }

        /** What can be earned at most from a day on that ends in a quarter. */
        private int boundBy(int day, int quarter) {
            int later = bounds[(day + 1) * MOST_QUARTERS + quarter];
            return later == NONE ? NONE : later + gains[day * MOST_QUARTERS + quarter];
        }

        private void search(int day, int quarter, int earned) {
            if (day >= days) {
                most = earned;
                System.arraycopy(row, 0, bestRow, 0, days);
                return;
            }
            spend(day, quarter, NONE, earned);
            for (int bridge = 0; bridge < town.bridges.size; bridge++) {
                int to = town.bridges.across(bridge, quarter);
                if (to != NONE && town.bridges.isFirstOpen(bridge, left)) {
                    left[bridge]--;
                    spend(day, to, bridge, earned);
                    left[bridge]++;
                }
            }
        }

        /** Goes on with a day that ends in a quarter, if more than the best can come of it. */
        private void spend(int day, int quarter, int bridge, int earned) {
            int bound = boundBy(day, quarter);
            if (bound != NONE && earned + bound > most) {
                row[day] = bridge;
                search(day + 1, quarter, earned + gains[day * MOST_QUARTERS + quarter]);
            }
        }
    }

    /** TRAIL: the first of the longest rows that what is left allows. */
    private static final class Walk {
        final int[] left = new int[MOST_BRIDGES];
        Links bridges;
        int longest = 0;
        int finish = 0;

        Walk(Links none) {
            bridges = none;
        }

        void start(Standing standing, int person) {
            bridges = standing.town.bridges;
            standing.tellLeft(person, left);
            longest = 0;
            finish = standing.at[person];
            follow(0, finish);
        }

        private void follow(int length, int quarter) {
            if (length > longest) {
                longest = length;
                finish = quarter;
            }
            if (length >= MOST_CROSSINGS_SEEN) {
                return;
            }
            for (int bridge = 0; bridge < bridges.size && longest < MOST_CROSSINGS_SEEN; bridge++) {
                int to = bridges.across(bridge, quarter);
                if (to != NONE && bridges.isFirstOpen(bridge, left)) {
                    left[bridge]--;
                    follow(length + 1, to);
                    left[bridge]++;
                }
            }
        }
    }

    /**
     * CAME: how often each bridge was taken so far tells in which quarter one
     * is, so what can follow is found but once for each such heap of crossings.
     */
    private static final class Story {
        /** Eight crossings make at most so many heaps: each of another bridge. */
        static final int MOST_HEAPS = 1 << MOST_CROSSINGS_SEEN;

        final int[] open = new int[MOST_BRIDGES];
        final int[] weight = new int[MOST_BRIDGES];
        /** By heaps: how many rows can follow (NONE: not looked at yet). */
        final int[] rows = new int[MOST_HEAPS];
        final int[] lasts = new int[MOST_HEAPS];
        final int[] firstLast = new int[MOST_HEAPS];
        Links bridges;
        int crossings = 0;
        int full = 0;
        int home = 0;
        int finish = 0;

        Story(Links none) {
            bridges = none;
        }

        /** Whether there are few enough crossings to be looked at. */
        boolean prepare(Standing standing, int person) {
            bridges = standing.town.bridges;
            home = standing.town.homes[person];
            finish = standing.at[person];
            crossings = 0;
            int heaps = 1;
            for (int bridge = 0; bridge < bridges.size && crossings <= MOST_CROSSINGS_SEEN; bridge++) {
                open[bridge] = standing.crossedSince[person * MOST_BRIDGES + bridge];
                crossings += open[bridge];
                weight[bridge] = heaps;
                heaps *= open[bridge] + 1;
            }
            full = heaps - 1;
            return crossings <= MOST_CROSSINGS_SEEN;
        }

        void tell() {
            Arrays.fill(rows, NONE);
            follow(0, home, crossings);
        }

        int rowCount() {
            return rows[0];
        }

        int lastOnes() {
            return lasts[0];
        }

        int lastOfFirst() {
            return firstLast[0];
        }

        private void follow(int heap, int quarter, int missing) {
            rows[heap] = missing == 0 && quarter == finish ? 1 : 0;
            lasts[heap] = 0;
            firstLast[heap] = CANNOT;
            if (missing <= 0) {
                return;
            }
            for (int bridge = 0; bridge < bridges.size; bridge++) {
                int to = bridges.across(bridge, quarter);
                if (to != NONE && open[bridge] > 0) {
                    int next = heap + weight[bridge];
                    if (rows[next] == NONE) {
                        open[bridge]--;
                        follow(next, to, missing - 1);
                        open[bridge]++;
                    }
                    if (rows[next] > 0) {
                        addRows(heap, next, bridge);
                    }
                }
            }
        }

        private void addRows(int heap, int next, int bridge) {
            if (rows[heap] == 0) {
                firstLast[heap] = next == full ? bridge : firstLast[next];
            }
            rows[heap] += rows[next];
            lasts[heap] |= next == full ? 1 << bridge : lasts[next];
        }
    }

    /** All but the tape and the rules, as it was once. */
    private static final class Image {
        final Standing standing;
        boolean made = false;
        long drawn = 0;

        Image(Town none) {
            standing = new Standing(none);
        }
    }
}
