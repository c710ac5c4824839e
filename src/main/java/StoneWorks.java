/**
 * Great stones moved from the quarry to their course, by gangs of men, day by day.
 * The words in capitals are those of the document (../shared/DOC.md).
 */
public final class StoneWorks {

    public static final int NONE = -1;

    private static final int LAST_DAY = 3000;
    private static final int THE_END = LAST_DAY + 1;
    private static final int MOST_DAYS_AT_ONCE = 400;
    private static final int MOST_GANGS = 6;
    private static final int MOST_MEN = 200;
    private static final int MOST_STONES = 30;
    private static final int MOST_WEIGHT = 99;
    private static final int COURSES = 10;
    /** What a GANG works on when it raises the RAMP: the number behind the last STONE. */
    private static final int THE_RAMP = MOST_STONES;

    private static final int IN_BED = 0;
    private static final int CUT = 1;
    private static final int AT_QUAY = 2;
    private static final int AT_FOOT = 3;
    private static final int UP = 4;
    private static final int LAID = 5;
    private static final int LOST = 6;

    private static final int HIGH = 0;
    private static final int WET = 1;
    private static final int FEAST = 2;

    private static final int FLAT_DRY = 0;
    private static final int FLAT_WET = 1;
    private static final int RAMP_DRY = 2;
    private static final int RAMP_WET = 3;
    private static final int CUTTING = 4;
    private static final int WAY = 5;
    private static final int RAFT = 6;
    private static final int ROPE = 7;
    private static final int EARTH = 8;
    private static final int TABLE_NUMBERS = 9;
    /** count(20) tells the first number of the TABLE. */
    private static final int COUNT_OF_TABLE = 20;

    private final Seasons seasons;
    private final Stores stores;
    private final Tape tape;
    private final Table rules;
    private final TableReader reader;
    private final Site site;
    private final Planner planner;
    private final Tallies tallies;

    public StoneWorks() {
        seasons = new Seasons();
        stores = new Stores();
        tape = new Tape();
        rules = new Table();
        reader = new TableReader(tape);
        site = new Site(rules, seasons, stores);
        planner = new Planner(site, rules, seasons);
        tallies = new Tallies(site);
    }

    public int gang(int men) {
        return site.addGang(men);
    }

    public int boat(int day, int food) {
        if (day < site.now) {
            return NONE;
        }
        return stores.addBoat(day, food);
    }

    public int spell(int kind, int from, int to) {
        return seasons.addSpell(kind, from, to);
    }

    public int feed(int a, int b, int c, int d, int e) {
        if (!tape.hasRoom()) {
            return NONE;
        }
        tape.putNumber(a);
        tape.putNumber(b);
        tape.putNumber(c);
        tape.putNumber(d);
        tape.putNumber(e);
        return tape.length;
    }

    public int end(int n) {
        return tape.keepFirst(n);
    }

    public int table() {
        int fault = reader.readTape();
        tape.keepFirst(0);
        if (fault != NONE) {
            return -2 - fault;
        }
        rules.takeNumbers(reader.numbers);
        return reader.clauses;
    }

    public int stone(int weight, int course) {
        return site.addStone(weight, course);
    }

    public int send(int gang, int stone) {
        return site.sendToStone(gang, stone);
    }

    public int raise(int gang) {
        return site.sendToRamp(gang);
    }

    public boolean callOff(int gang) {
        return site.stopWork(gang);
    }

    public int pass(int days) {
        if (days < 1 || days > MOST_DAYS_AT_ONCE || days > THE_END - site.now) {
            return NONE;
        }
        for (int i = 0; i < days; i++) {
            site.liveDay();
        }
        return site.now;
    }

    public int about(int stone, int what) {
        Stone s = site.stoneAt(stone);
        if (s == null) {
            return NONE;
        }
        switch (what) {
            case 0: return s.state;
            case 1: return s.worker;
            case 2: return s.mark;
            case 3: return s.laidOn;
            case 4: return rules.pullOf(s, false);
            default: return NONE;
        }
    }

    public int gangs(int gang, int what) {
        Gang g = site.gangAt(gang);
        if (g == null) {
            return NONE;
        }
        switch (what) {
            case 0: return g.men;
            case 1: return g.work;
            case 2: return g.left;
            case 3: return g.laid;
            case 4: return g.stillDays;
            default: return NONE;
        }
    }

    public int plan() {
        return planner.makePlan();
    }

    public int planned(int k, int what) {
        return planner.tell(k, what);
    }

    public int tally(int gang, int from, int to, int n) {
        return tallies.addTally(gang, from, to, n);
    }

    public int isTrue(int tally) {
        return tallies.tellTruth(tally);
    }

    public int quarrel() {
        return tallies.quarrelSize();
    }

    public int quarrels(int k) {
        return tallies.quarrelMember(k);
    }

    public int count(int what) {
        switch (what) {
            case 0: return site.now;
            case 1: return site.gangCount;
            case 2: return site.stoneCount;
            case 3: return stores.food;
            case 4: return site.rampHigh;
            case 5: return site.stonesThatAre(LAID);
            case 6: return site.stonesThatAre(LOST);
            case 7: return stores.boats;
            case 8: return seasons.spells;
            case 9: return tape.length;
            case 10: return tallies.size;
            case 11: return site.hungerDays;
            default: return rules.numberAt(what < COUNT_OF_TABLE ? NONE : what - COUNT_OF_TABLE);
        }
    }

    private static boolean isDay(int day) {
        return day >= 0 && day <= LAST_DAY;
    }

    /** A quotient, upwards; NONE where there is nothing to divide by. */
    private static int upwards(int amount, int by) {
        return by < 1 ? NONE : (amount + by - 1) / by;
    }

    /** The SPELLS. */
    private static final class Seasons {
        private static final int MOST_SPELLS = 40;

        private final int[] kindOf = new int[MOST_SPELLS];
        private final int[] firstOf = new int[MOST_SPELLS];
        private final int[] lastOf = new int[MOST_SPELLS];
        private int spells = 0;

        // The HIGH DAYS once more as runs, in order and with gaps between, for the plan's rafts.
        private final int[] runFirst = new int[MOST_SPELLS];
        private final int[] runLast = new int[MOST_SPELLS];
        private int runs = 0;

        int addSpell(int kind, int from, int to) {
            if (spells >= MOST_SPELLS || kind < HIGH || kind > FEAST) {
                return NONE;
            }
            if (!isDay(from) || !isDay(to) || from > to) {
                return NONE;
            }
            kindOf[spells] = kind;
            firstOf[spells] = from;
            lastOf[spells] = to;
            spells++;
            if (kind == HIGH) {
                addRun(from, to);
            }
            return spells;
        }

        private void addRun(int from, int to) {
            int first = from;
            int last = to;
            int kept = 0;
            for (int i = 0; i < runs; i++) {
                if (runLast[i] < from - 1 || runFirst[i] > to + 1) {
                    runFirst[kept] = runFirst[i];
                    runLast[kept] = runLast[i];
                    kept++;
                } else {
                    first = Math.min(first, runFirst[i]);
                    last = Math.max(last, runLast[i]);
                }
            }
            if (kept >= MOST_SPELLS) {
                return;
            }
            int at = kept;
            for (; at > 0 && runFirst[at - 1] > first; at--) {
                runFirst[at] = runFirst[at - 1];
                runLast[at] = runLast[at - 1];
            }
            runFirst[at] = first;
            runLast[at] = last;
            runs = kept + 1;
        }

        boolean isOn(int kind, int day) {
            for (int i = 0; i < spells; i++) {
                if (kindOf[i] == kind && firstOf[i] <= day && day <= lastOf[i]) {
                    return true;
                }
            }
            return false;
        }

        /** The first DAY, from this one on, from which on so many DAYS are HIGH; NONE. */
        int firstRaftDay(int day, int length) {
            for (int i = 0; i < runs; i++) {
                int begin = Math.max(day, runFirst[i]);
                if (begin + length - 1 <= runLast[i]) {
                    return begin;
                }
            }
            return NONE;
        }
    }

    /** FOOD and the BOATS that bring it. */
    private static final class Stores {
        private static final int MOST_BOATS = 40;
        private static final int MOST_OF_A_BOAT = 1000000;
        private static final int MOST_FOOD = 10000000;

        private final int[] dayOf = new int[MOST_BOATS];
        private final int[] loadOf = new int[MOST_BOATS];
        private int boats = 0;
        private int food = 0;

        int addBoat(int day, int load) {
            if (boats >= MOST_BOATS || !isDay(day) || load < 1 || load > MOST_OF_A_BOAT) {
                return NONE;
            }
            dayOf[boats] = day;
            loadOf[boats] = load;
            boats++;
            return boats;
        }

        void landBoats(int day) {
            for (int i = 0; i < boats; i++) {
                if (dayOf[i] == day) {
                    food = Math.min(MOST_FOOD, food + loadOf[i]);
                }
            }
        }
    }

    /** The TAPE. */
    private static final class Tape {
        private static final int MOST_BYTES = 200;
        private static final int BYTES_OF_A_FEED = 20;

        private final byte[] bytes = new byte[MOST_BYTES];
        private int length = 0;

        boolean hasRoom() {
            return length + BYTES_OF_A_FEED <= MOST_BYTES;
        }

        void putNumber(int number) {
            for (int shift = 24; shift >= 0; shift -= 8) {
                if (length < MOST_BYTES) {
                    bytes[length] = (byte) (number >>> shift);
                    length++;
                }
            }
        }

        int keepFirst(int n) {
            if (n < 0 || n > length) {
                return NONE;
            }
            length = n;
            return n;
        }

        /** 0 to 255; NONE where there is no byte. */
        int byteAt(int place) {
            return place < 0 || place >= length ? NONE : bytes[place] & 255;
        }

        boolean isLetter(int place) {
            return byteAt(place) >= 'a' && byteAt(place) <= 'z';
        }

        boolean isDigit(int place) {
            return byteAt(place) >= '0' && byteAt(place) <= '9';
        }

        boolean hasWord(int from, int to, String word) {
            if (to - from != word.length()) {
                return false;
            }
            for (int i = 0; i < word.length(); i++) {
                if (byteAt(from + i) != word.charAt(i)) {
                    return false;
                }
            }
            return true;
        }
    }

    /** The TABLE that holds now. */
    private static final class Table {
        private static final int[] WITHOUT = {5, 5, 5, 5, 2, 3, 4, 200, 10};

        private final int[] numbers = new int[TABLE_NUMBERS];

        Table() {
            takeNumbers(WITHOUT);
        }

        void takeNumbers(int[] others) {
            for (int i = 0; i < numbers.length && i < others.length; i++) {
                numbers[i] = others[i];
            }
        }

        int numberAt(int which) {
            return which < 0 || which >= numbers.length ? NONE : numbers[which];
        }

        /** The PULL that a STONE wants next, 0 if that is no HAUL. */
        int pullOf(Stone stone, boolean wet) {
            if (!stone.wantsHaul()) {
                return 0;
            }
            if (stone.state == AT_FOOT) {
                return pullOfWeight(stone.weight, wet ? RAMP_WET : RAMP_DRY);
            }
            return pullOfWeight(stone.weight, wet ? FLAT_WET : FLAT_DRY);
        }

        int pullOfWeight(int weight, int which) {
            return upwards(weight * numberAt(which), 10);
        }

        /** The MEN's days or DAYS of what a STONE wants next. */
        int lengthOfNext(Stone stone) {
            switch (stone.state) {
                case IN_BED: return stone.weight * numberAt(CUTTING);
                case CUT: return numberAt(WAY);
                case AT_QUAY: return numberAt(RAFT);
                case AT_FOOT: return stone.course + 1;
                default: return 1;
            }
        }
    }

    /** Reads the TAPE as a TABLE. */
    private static final class TableReader {
        private static final int CLAUSES = 7;
        private static final int MOST_DIGITS = 3;
        /** Where the numbers of each CLAUSE begin, and where those of the last one end. */
        private static final int[] NUMBERS_FROM = {0, 2, 4, 5, 6, 7, 8, 9};
        private static final int[] GREATEST = {99, 99, 99, 99, 99, 20, 20, 200, 99};
        private static final int WRONG_HERE = 0;
        private static final int WRONG_NUMBER = 1;
        private static final int TOLD_TWICE = 2;

        private final Tape tape;
        private final int[] numbers = new int[TABLE_NUMBERS];
        private int clauses = 0;
        private int toldOnes = 0;
        private int place = 0;
        private int fault = NONE;

        TableReader(Tape tape) {
            this.tape = tape;
        }

        /** The FAULT, or NONE: then the numbers and how many CLAUSES there are stand here. */
        int readTape() {
            begin();
            skipBlanks();
            boolean more = place < tape.length;
            // One CLAUSE more than there are kinds is always a FAULT.
            for (int i = 0; more && i <= CLAUSES; i++) {
                more = readClause();
            }
            return fault;
        }

        private void begin() {
            for (int i = 0; i < numbers.length && i < Table.WITHOUT.length; i++) {
                numbers[i] = Table.WITHOUT[i];
            }
            clauses = 0;
            toldOnes = 0;
            place = 0;
            fault = NONE;
        }

        /** True if another CLAUSE is due behind this one. */
        private boolean readClause() {
            int clause = readWord();
            if (clause == NONE) {
                return false;
            }
            for (int i = NUMBERS_FROM[clause]; i < NUMBERS_FROM[clause + 1]; i++) {
                if (!readNumber(i)) {
                    return false;
                }
            }
            clauses++;
            skipBlanks();
            if (place >= tape.length) {
                return false;
            }
            if (tape.byteAt(place) != ';') {
                return fail(place, WRONG_HERE);
            }
            place++;
            return true;
        }

        /** The CLAUSE of a WORD, 0 to 6; NONE with a FAULT. */
        private int readWord() {
            skipBlanks();
            int from = place;
            while (place < tape.length && tape.isLetter(place)) {
                place++;
            }
            int clause = clauseAt(from);
            if (clause == NONE) {
                fail(from, WRONG_HERE);
                return NONE;
            }
            if ((toldOnes & 1 << clause) != 0) {
                fail(from, TOLD_TWICE);
                return NONE;
            }
            toldOnes |= 1 << clause;
            return clause;
        }

        private int clauseAt(int from) {
            for (int clause = 0; clause < CLAUSES; clause++) {
                if (tape.hasWord(from, place, wordOf(clause))) {
                    return clause;
                }
            }
            return NONE;
        }

        private static String wordOf(int clause) {
            switch (clause) {
                case 0: return "flat";
                case 1: return "ramp";
                case 2: return "cut";
                case 3: return "way";
                case 4: return "raft";
                case 5: return "rope";
                default: return "earth";
            }
        }

        private boolean readNumber(int which) {
            skipBlanks();
            int from = place;
            int value = 0;
            while (place < tape.length && tape.isDigit(place)) {
                // Digits behind the third are a FAULT anyway and might not fit.
                if (place - from < MOST_DIGITS) {
                    value = value * 10 + tape.byteAt(place) - '0';
                }
                place++;
            }
            if (place == from || which < 0 || which >= TABLE_NUMBERS) {
                return fail(from, WRONG_HERE);
            }
            if (place - from > MOST_DIGITS || value < 1 || value > GREATEST[which]) {
                return fail(from, WRONG_NUMBER);
            }
            numbers[which] = value;
            return true;
        }

        private void skipBlanks() {
            while (place < tape.length && tape.byteAt(place) == ' ') {
                place++;
            }
        }

        /** Always false, for the reader who stops here. */
        private boolean fail(int where, int why) {
            fault = 1 + 4 * where + why;
            return false;
        }
    }

    /** A STONE. */
    private static final class Stone {
        private final int weight;
        private final int course;
        private int state = IN_BED;
        private int worker = NONE;
        private int mark = NONE;
        private int laidOn = NONE;

        Stone(int weight, int course) {
            this.weight = weight;
            this.course = course;
        }

        boolean isDone() {
            return state == LAID || state == LOST;
        }

        boolean wantsHaul() {
            return state == CUT || state == AT_FOOT || state == UP;
        }
    }

    /** A GANG. */
    private static final class Gang {
        private final int men;
        private int work = NONE;
        private int left = 0;
        private int laid = 0;
        private int stillDays = 0;

        Gang(int men) {
            this.men = men;
        }

        void takeWork(int what, int length) {
            work = what;
            left = length;
        }

        void dropWork() {
            work = NONE;
            left = 0;
        }
    }

    /** The GANGS, the STONES and the RAMP, and what becomes of them DAY by DAY. */
    private static final class Site {
        private final Table rules;
        private final Seasons seasons;
        private final Stores stores;
        private final Gang[] gangs = new Gang[MOST_GANGS];
        private final Stone[] stones = new Stone[MOST_STONES];
        private int gangCount = 0;
        private int stoneCount = 0;
        private int allMen = 0;
        private int rampHigh = 0;
        private int now = 0;
        private int hungerDays = 0;

        Site(Table rules, Seasons seasons, Stores stores) {
            this.rules = rules;
            this.seasons = seasons;
            this.stores = stores;
        }

        int addGang(int men) {
            if (gangCount >= MOST_GANGS || men < 1 || men > MOST_MEN) {
                return NONE;
            }
            gangs[gangCount] = new Gang(men);
            allMen += men;
            return gangCount++;
        }

        int addStone(int weight, int course) {
            if (stoneCount >= MOST_STONES || weight < 1 || weight > MOST_WEIGHT) {
                return NONE;
            }
            if (course < 0 || course >= COURSES) {
                return NONE;
            }
            stones[stoneCount] = new Stone(weight, course);
            return stoneCount++;
        }

        /** Null without it. */
        Gang gangAt(int gang) {
            return gang < 0 || gang >= gangCount ? null : gangs[gang];
        }

        /** Null without it. */
        Stone stoneAt(int stone) {
            return stone < 0 || stone >= stoneCount ? null : stones[stone];
        }

        int stonesThatAre(int state) {
            int found = 0;
            for (int i = 0; i < stoneCount; i++) {
                if (stones[i].state == state) {
                    found++;
                }
            }
            return found;
        }

        int stonesLaidBy(int gang, int from, int to) {
            int found = 0;
            for (int i = 0; i < stoneCount; i++) {
                Stone stone = stones[i];
                if (stone.mark == gang && stone.laidOn >= from && stone.laidOn <= to) {
                    found++;
                }
            }
            return found;
        }

        int sendToStone(int gang, int stone) {
            Gang g = gangAt(gang);
            Stone s = stoneAt(stone);
            if (g == null || s == null || now > LAST_DAY) {
                return 1;
            }
            if (g.work != NONE) {
                return 2;
            }
            if (s.worker != NONE) {
                return 3;
            }
            int hindrance = s.isDone() ? 4 : hindranceOfNext(g, s);
            if (hindrance == 0) {
                g.takeWork(stone, rules.lengthOfNext(s));
                s.worker = gang;
            }
            return hindrance;
        }

        /** 5 to 9, or 0: what keeps a GANG from what a STONE wants next. */
        private int hindranceOfNext(Gang g, Stone s) {
            int pull = rules.pullOf(s, seasons.isOn(WET, now));
            if (pull > rules.numberAt(ROPE)) {
                return 5;
            }
            if (pull > g.men) {
                return 6;
            }
            if (s.state == AT_QUAY && !seasons.isOn(HIGH, now)) {
                return 7;
            }
            if (s.state == AT_FOOT && rampHigh <= s.course) {
                return 8;
            }
            return s.state == UP && waitsForLesser(s) ? 9 : 0;
        }

        private boolean waitsForLesser(Stone s) {
            for (int i = 0; i < stoneCount; i++) {
                if (stones[i].course < s.course && !stones[i].isDone()) {
                    return true;
                }
            }
            return false;
        }

        int sendToRamp(int gang) {
            Gang g = gangAt(gang);
            if (g == null || now > LAST_DAY) {
                return 1;
            }
            if (g.work != NONE) {
                return 2;
            }
            if (isRampRaised()) {
                return 3;
            }
            if (rampHigh >= COURSES) {
                return 4;
            }
            g.takeWork(THE_RAMP, rules.numberAt(EARTH) * (rampHigh + 1));
            return 0;
        }

        private boolean isRampRaised() {
            for (int i = 0; i < gangCount; i++) {
                if (gangs[i].work == THE_RAMP) {
                    return true;
                }
            }
            return false;
        }

        boolean stopWork(int gang) {
            Gang g = gangAt(gang);
            if (g == null || g.work == NONE) {
                return false;
            }
            leaveWork(g);
            return true;
        }

        /** A WORK ends undone: a STONE on the river is lost by that. */
        private void leaveWork(Gang g) {
            Stone s = stoneAt(g.work);
            if (s != null) {
                s.worker = NONE;
                if (s.state == AT_QUAY) {
                    s.state = LOST;
                }
            }
            g.dropWork();
        }

        /** To be called while NOW is a DAY. */
        void liveDay() {
            stores.landBoats(now);
            boolean idle = seasons.isOn(FEAST, now);
            if (stores.food < allMen) {
                hungerDays++;
                idle = true;
            } else {
                stores.food -= allMen;
            }
            boolean high = !idle && seasons.isOn(HIGH, now);
            boolean wet = !idle && seasons.isOn(WET, now);
            for (int i = 0; i < gangCount; i++) {
                if (isRafting(gangs[i]) && !high) {
                    leaveWork(gangs[i]);
                } else if (!idle) {
                    workOneDay(i, wet);
                }
            }
            now++;
        }

        private boolean isRafting(Gang g) {
            Stone s = stoneAt(g.work);
            return s != null && s.state == AT_QUAY;
        }

        private void workOneDay(int gang, boolean wet) {
            Gang g = gangs[gang];
            Stone s = stoneAt(g.work);
            if (g.work == NONE) {
                return;
            }
            if (s != null && s.wantsHaul() && isTooHeavy(rules.pullOf(s, wet), g)) {
                g.stillDays++;
                return;
            }
            boolean byMen = s == null || s.state == IN_BED;
            g.left -= byMen ? g.men : 1;
            if (g.left > 0) {
                return;
            }
            g.dropWork();
            if (s == null) {
                rampHigh++;
            } else {
                bringFurther(s, gang);
            }
        }

        private boolean isTooHeavy(int pull, Gang g) {
            return pull > rules.numberAt(ROPE) || pull > g.men;
        }

        private void bringFurther(Stone s, int gang) {
            s.state++;
            s.worker = NONE;
            if (s.state == LAID) {
                s.mark = gang;
                s.laidOn = now;
                gangs[gang].laid++;
            }
        }
    }

    /** THE PLAN. */
    private static final class Planner {
        private static final int MOST_PLANNED = 5;
        private static final int TOLD_OF_EACH = 4;

        private final Site site;
        private final Table rules;
        private final Seasons seasons;

        // The STONES that are to be laid, by numbers: the search knows them by their places here.
        private final Stone[] stones = new Stone[MOST_PLANNED];
        private final int[] numberOf = new int[MOST_PLANNED];
        private int size = 0;

        // What the works take: DAYS by a GANG up to the raft (or to the ramp, if that is behind it),
        // NONE if the STONE can't be that GANG's; and DAYS on the ramp.
        private final int[][] leadDays = new int[MOST_PLANNED][MOST_GANGS];
        private final int[] rampDays = new int[MOST_PLANNED];
        /** The places of the STONES of lesser COURSES, a bit each. */
        private final int[] lesserOnes = new int[MOST_PLANNED];

        // The order and the GANGS that the search is looking at.
        private final int[] order = new int[MOST_PLANNED];
        private final int[] takerOf = new int[MOST_PLANNED];
        private final int[] beginOf = new int[MOST_PLANNED];
        private final int[] layDayOf = new int[MOST_PLANNED];
        private final int[] freeFrom = new int[MOST_GANGS];
        /** The least last DAY that has been found. */
        private int least = 0;
        /** No order can end ahead of this DAY. */
        private int floor = 0;

        private final int[][] told = new int[MOST_PLANNED][TOLD_OF_EACH];
        private int toldSize = 0;

        Planner(Site site, Table rules, Seasons seasons) {
            this.site = site;
            this.rules = rules;
            this.seasons = seasons;
        }

        int tell(int k, int what) {
            if (k < 0 || k >= toldSize || what < 0 || what >= TOLD_OF_EACH) {
                return NONE;
            }
            return told[k][what];
        }

        int makePlan() {
            if (!gatherStones()) {
                return NONE;
            }
            if (size == 0) {
                toldSize = 0;
                return site.now - 1;
            }
            prepareWorks();
            least = THE_END;
            if (!findFloor()) {
                return NONE;
            }
            seekLeast(0, 0, NONE);
            if (least > LAST_DAY || !seekOrder(0, 0)) {
                return NONE;
            }
            keepPlan();
            return least;
        }

        /** False if there are too many, or one is worked on. */
        private boolean gatherStones() {
            size = 0;
            for (int i = 0; i < site.stoneCount; i++) {
                Stone s = site.stoneAt(i);
                if (s == null || s.isDone()) {
                    continue;
                }
                if (s.worker != NONE || size >= MOST_PLANNED) {
                    return false;
                }
                stones[size] = s;
                numberOf[size] = i;
                size++;
            }
            return true;
        }

        private void prepareWorks() {
            for (int g = 0; g < MOST_GANGS; g++) {
                freeFrom[g] = site.now;
            }
            for (int i = 0; i < size; i++) {
                Stone s = stones[i];
                rampDays[i] = s.state <= AT_FOOT ? s.course + 1 : 0;
                layDayOf[i] = NONE;
                lesserOnes[i] = 0;
                for (int j = 0; j < size; j++) {
                    if (stones[j].course < s.course) {
                        lesserOnes[i] |= 1 << j;
                    }
                }
                for (int g = 0; g < MOST_GANGS; g++) {
                    leadDays[i][g] = leadOf(s, site.gangAt(g));
                }
            }
        }

        private int leadOf(Stone s, Gang g) {
            if (g == null || g.work != NONE || menWanted(s) > g.men) {
                return NONE;
            }
            if (s.state <= AT_FOOT && site.rampHigh <= s.course) {
                return NONE;
            }
            int days = 0;
            if (s.state <= IN_BED) {
                days += upwards(s.weight * rules.numberAt(CUTTING), g.men);
            }
            if (s.state <= CUT) {
                days += rules.numberAt(WAY);
            }
            return days;
        }

        /** Every STONE is still to be laid, which is a flat HAUL. */
        private int menWanted(Stone s) {
            int flat = rules.pullOfWeight(s.weight, FLAT_DRY);
            int ramp = s.state <= AT_FOOT ? rules.pullOfWeight(s.weight, RAMP_DRY) : 0;
            return Math.max(flat, ramp);
        }

        /** The DAY on which a STONE could be laid, but for the lesser COURSES; NONE: by no DAY. */
        private int readyDay(int i, int g) {
            if (leadDays[i][g] == NONE) {
                return NONE;
            }
            int day = freeFrom[g] + leadDays[i][g];
            if (stones[i].state <= AT_QUAY) {
                int raft = rules.numberAt(RAFT);
                int begin = seasons.firstRaftDay(day, raft);
                if (begin == NONE) {
                    return NONE;
                }
                day = begin + raft;
            }
            day += rampDays[i];
            return day > LAST_DAY ? NONE : day;
        }

        /** The DAY on which a STONE is laid; NONE: by no DAY, or a lesser COURSE comes behind it. */
        private int layDay(int i, int g) {
            int day = readyDay(i, g);
            for (int j = 0; j < size && day != NONE; j++) {
                if ((lesserOnes[i] & 1 << j) == 0) {
                    continue;
                }
                if (layDayOf[j] == NONE || layDayOf[j] >= LAST_DAY) {
                    return NONE;
                }
                day = Math.max(day, layDayOf[j] + 1);
            }
            return day;
        }

        /** False if some STONE can be laid by no GANG. */
        private boolean findFloor() {
            floor = 0;
            for (int i = 0; i < size; i++) {
                int soonest = THE_END;
                for (int g = 0; g < MOST_GANGS; g++) {
                    int day = readyDay(i, g);
                    if (day != NONE) {
                        soonest = Math.min(soonest, day);
                    }
                }
                floor = Math.max(floor, soonest);
            }
            return floor <= LAST_DAY;
        }

        private void place(int i, int g, int day) {
            takerOf[i] = g;
            beginOf[i] = freeFrom[g];
            layDayOf[i] = day;
            freeFrom[g] = day + 1;
        }

        private void takeBack(int i, int g) {
            freeFrom[g] = beginOf[i];
            layDayOf[i] = NONE;
        }

        /**
         * Finds the least last DAY alone. When STONES are laid hangs on what each GANG does in which
         * order, not on how the GANGS' STONES are mixed: so, within a COURSE, only orders are looked
         * at in which the GANGS' numbers don't go down.
         */
        private void seekLeast(int depth, int placed, int last) {
            if (depth >= size) {
                least = last;
                return;
            }
            for (int i = 0; i < size; i++) {
                if (!mayComeNext(i, placed)) {
                    continue;
                }
                for (int g = leastTaker(i, depth); g < MOST_GANGS && least > floor; g++) {
                    int day = layDay(i, g);
                    if (day == NONE || day >= least) {
                        continue;
                    }
                    order[depth] = i;
                    place(i, g, day);
                    seekLeast(depth + 1, placed | 1 << i, Math.max(last, day));
                    takeBack(i, g);
                }
            }
        }

        private boolean mayComeNext(int i, int placed) {
            return (placed & 1 << i) == 0 && (lesserOnes[i] & ~placed) == 0;
        }

        private int leastTaker(int i, int depth) {
            if (depth < 1 || depth > size) {
                return 0;
            }
            int before = order[depth - 1];
            return stones[before].course == stones[i].course ? takerOf[before] : 0;
        }

        /** The first order, by STONES, that has GANGS with which it ends on the least DAY. */
        private boolean seekOrder(int depth, int placed) {
            if (depth >= size) {
                return seekGangs(0);
            }
            for (int i = 0; i < size; i++) {
                if (!mayComeNext(i, placed)) {
                    continue;
                }
                order[depth] = i;
                if (seekOrder(depth + 1, placed | 1 << i)) {
                    return true;
                }
            }
            return false;
        }

        /** The first GANGS of this order with which it ends on the least DAY; they stay placed. */
        private boolean seekGangs(int depth) {
            if (depth >= size) {
                return true;
            }
            int i = order[depth];
            for (int g = 0; g < MOST_GANGS; g++) {
                int day = layDay(i, g);
                if (day == NONE || day > least) {
                    continue;
                }
                place(i, g, day);
                if (seekGangs(depth + 1)) {
                    return true;
                }
                takeBack(i, g);
            }
            return false;
        }

        private void keepPlan() {
            toldSize = size;
            for (int k = 0; k < size; k++) {
                int i = order[k];
                told[k][0] = numberOf[i];
                told[k][1] = takerOf[i];
                told[k][2] = beginOf[i];
                told[k][3] = layDayOf[i];
            }
        }
    }

    /** The scribes' TALLIES. */
    private static final class Tallies {
        private static final int MOST_TALLIES = 20;
        private static final int MOST_TOLD = 30;

        private final Site site;
        private final int[] gangOf = new int[MOST_TALLIES];
        private final int[] fromOf = new int[MOST_TALLIES];
        private final int[] toOf = new int[MOST_TALLIES];
        private final int[] stonesOf = new int[MOST_TALLIES];
        private int size = 0;

        /** THE QUARREL, a bit for each TALLY, of the first so many TALLIES. */
        private int quarrelling = 0;
        private int judged = 0;

        // The DAYS on which a TALLY of one GANG begins, or behind which it ends, in order,
        // and the least number of STONES that the GANG can have laid ahead of each.
        private final int[] borders = new int[2 * MOST_TALLIES];
        private final int[] laidAhead = new int[2 * MOST_TALLIES];
        private int borderCount = 0;
        private final int[] beginsAt = new int[MOST_TALLIES];
        private final int[] endsAt = new int[MOST_TALLIES];

        Tallies(Site site) {
            this.site = site;
        }

        int addTally(int gang, int from, int to, int n) {
            if (size >= MOST_TALLIES || gang < 0 || gang >= MOST_GANGS || n < 0 || n > MOST_TOLD) {
                return NONE;
            }
            if (!isDay(from) || !isDay(to) || from > to) {
                return NONE;
            }
            gangOf[size] = gang;
            fromOf[size] = from;
            toOf[size] = to;
            stonesOf[size] = n;
            return size++;
        }

        int tellTruth(int t) {
            if (t < 0 || t >= size) {
                return NONE;
            }
            return site.stonesLaidBy(gangOf[t], fromOf[t], toOf[t]) == stonesOf[t] ? 1 : 0;
        }

        int quarrelSize() {
            judge();
            return Integer.bitCount(quarrelling);
        }

        int quarrelMember(int k) {
            judge();
            int before = 0;
            for (int t = 0; t < size; t++) {
                if ((quarrelling & 1 << t) == 0) {
                    continue;
                }
                if (before == k) {
                    return t;
                }
                before++;
            }
            return NONE;
        }

        /** TALLIES only ever come, so their number tells whether THE QUARREL is known. */
        private void judge() {
            if (judged == size) {
                return;
            }
            judged = size;
            quarrelling = 0;
            int left = (1 << size) - 1;
            if (agree(left)) {
                return;
            }
            for (int t = size - 1; t >= 0; t--) {
                int rest = left & ~(1 << t);
                if (!agree(rest)) {
                    left = rest;
                }
            }
            quarrelling = left;
        }

        private boolean agree(int which) {
            for (int g = 0; g < MOST_GANGS; g++) {
                if (!agreeOnGang(which, g)) {
                    return false;
                }
            }
            return true;
        }

        /**
         * The numbers laid ahead of each border are raised as far as the TALLIES want it: if they
         * don't come to rest after a round for each border, they never do.
         */
        private boolean agreeOnGang(int which, int gang) {
            int ours = 0;
            borderCount = 0;
            for (int t = 0; t < size; t++) {
                if ((which & 1 << t) != 0 && gangOf[t] == gang) {
                    ours |= 1 << t;
                    addBorder(fromOf[t]);
                    addBorder(toOf[t] + 1);
                }
            }
            findBorders(ours);
            for (int round = 0; round <= borderCount; round++) {
                if (!raiseNumbers(ours)) {
                    return true;
                }
            }
            return false;
        }

        private void addBorder(int day) {
            if (borderAt(day) != NONE || borderCount >= borders.length) {
                return;
            }
            int at = borderCount;
            for (; at > 0 && borders[at - 1] > day; at--) {
                borders[at] = borders[at - 1];
            }
            borders[at] = day;
            borderCount++;
        }

        private int borderAt(int day) {
            for (int i = 0; i < borderCount; i++) {
                if (borders[i] == day) {
                    return i;
                }
            }
            return NONE;
        }

        private void findBorders(int ours) {
            for (int i = 0; i < borderCount; i++) {
                laidAhead[i] = 0;
            }
            for (int t = 0; t < size; t++) {
                if ((ours & 1 << t) != 0) {
                    beginsAt[t] = Math.max(0, borderAt(fromOf[t]));
                    endsAt[t] = Math.max(0, borderAt(toOf[t] + 1));
                }
            }
        }

        /** True if a number had to be raised. */
        private boolean raiseNumbers(int ours) {
            boolean raised = false;
            for (int i = 1; i < borderCount; i++) {
                raised |= raiseTo(i, laidAhead[i - 1]);
            }
            for (int t = 0; t < size; t++) {
                if ((ours & 1 << t) != 0) {
                    raised |= raiseTo(endsAt[t], laidAhead[beginsAt[t]] + stonesOf[t]);
                    raised |= raiseTo(beginsAt[t], laidAhead[endsAt[t]] - stonesOf[t]);
                }
            }
            return raised;
        }

        private boolean raiseTo(int border, int number) {
            if (laidAhead[border] >= number) {
                return false;
            }
            laidAhead[border] = number;
            return true;
        }
    }
}
