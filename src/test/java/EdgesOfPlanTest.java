/** The boundary cases of promises 15 and 16: THE PLAN, and what is told of it. */
public final class EdgesOfPlanTest {
    private static final Checks C = new Checks();
    private static final String QUICK = Sites.QUICK;

    public static void main(String[] args) {
        noStones();
        allLaidOrLost();
        moreThanFive();
        onlyThoseToBeLaid();
        gangWorksOnOne();
        gangsWithoutAWork();
        rampAsItIs();
        foodFeastsRopes();
        dryDays();
        menOfAGang();
        menByStage();
        cuttingUpwards();
        raftsFirstDay();
        raftsOverAGap();
        raftsWithFortySpells();
        raftAtTheLastDays();
        lesserCoursesFirst();
        lesserCourseBehind();
        oneStoneAtATime();
        byDay3000();
        lesserOnDay3000();
        firstByStones();
        firstByGangs();
        leastDay();
        numbersOfAPlan();
        latestThatToldADay();
        fewerStonesThanBefore();
        C.finish();
    }

    /** The river HIGH on all DAYS, a RAMP, and STONES of one weight, of these COURSES. */
    private static StoneWorks ready(int ramp, int[] men, int... courses) {
        StoneWorks x = Sites.withRamp(QUICK, ramp, men);
        for (int course : courses) {
            x.stone(10, course);
        }
        return x;
    }

    /** STONE, GANG, begin and laid of each, the DAYS counted from NOW. */
    private static void duePlan(String name, StoneWorks x, int last, int... rows) {
        int now = x.count(0);
        C.due(name + ": plan()", x.plan(), now + last);
        for (int i = 0; i < rows.length; i++) {
            int want = i % 4 < 2 ? rows[i] : now + rows[i];
            C.due(name + ": planned(" + i / 4 + ", " + i % 4 + ")", x.planned(i / 4, i % 4), want);
        }
        C.due(name + ": none behind the last", x.planned(rows.length / 4, 0), -1);
    }

    private static void dueNone(String name, StoneWorks x) {
        C.due(name + ": plan()", x.plan(), -1);
    }

    // ---- promise 15

    private static void noStones() {
        C.sentence(15, "NOW less one if there are none;");
        StoneWorks x = new StoneWorks();
        C.due("on day 0", x.plan(), -1);
        x.pass(1);
        C.due("on day 1", x.plan(), 0);
        Sites.passTo(x, 3000);
        C.due("on day 3000", x.plan(), 2999);
        x.pass(1);
        C.due("at the end", x.plan(), 3000);
        StoneWorks y = Sites.fed(5);
        y.raise(0);
        y.pass(1);
        C.due("all gangs at work", y.plan(), 0);
    }

    private static void allLaidOrLost() {
        C.sentence(15, "THE PLAN for the STONES that are not laid or lost");
        StoneWorks x = ready(1, new int[] {20}, 0, 0);
        Sites.bring(x, 0, 0, 5);
        C.due("one is left", x.plan(), x.count(0) + 4);
        Sites.lose(x, 0, 1);
        C.due("none is left", x.plan(), x.count(0) - 1);
    }

    private static void moreThanFive() {
        C.sentence(15, "there are more than 5,");
        StoneWorks x = ready(1, new int[] {20}, 0, 0, 0, 0, 0);
        C.due("five", x.plan(), x.count(0) + 24);
        x.stone(1, 0);
        dueNone("six", x);
        while (x.stone(1, 0) != -1) {
            dueNone("more", x);
        }
        C.due("thirty", x.count(2), 30);
    }

    private static void onlyThoseToBeLaid() {
        C.sentence(15, "(at most 5 of them, that nobody works on)");
        StoneWorks x = ready(1, new int[] {20}, 0, 0, 0, 0, 0, 0, 0);
        Sites.bring(x, 0, 2, 5);
        dueNone("seven, and one is laid", x);
        Sites.lose(x, 0, 6);
        C.due("seven, and two are done", x.plan(), x.count(0) + 24);
        int[] order = {0, 1, 3, 4, 5};
        for (int k = 0; k < 5; k++) {
            C.due("planned(" + k + ", 0)", x.planned(k, 0), order[k]);
        }
    }

    private static void gangWorksOnOne() {
        C.sentence(15, "or a GANG works on one.");
        for (int state = 0; state < 5; state++) {
            StoneWorks x = ready(1, new int[] {20, 20}, 0, 0);
            Sites.bring(x, 0, 1, state);
            C.due("state " + state + ", nobody works: a plan", x.plan() > 0, true);
            x.send(1, 1);
            dueNone("state " + state + ", worked on", x);
            x.callOff(1);
            C.due("state " + state + ", called off: a plan", x.plan() > 0, true);
        }
    }

    private static void gangsWithoutAWork() {
        C.sentence(15, "each is taken by a GANG that has no WORK now,");
        StoneWorks x = ready(1, new int[] {20, 20}, 0);
        x.raise(0);
        duePlan("the first gang raises", x, 4, 0, 1, 0, 4);
        x.callOff(0);
        x.raise(1);
        duePlan("the second gang raises", x, 4, 0, 0, 0, 4);
        StoneWorks y = ready(1, new int[] {20}, 0);
        y.raise(0);
        dueNone("the only gang raises", y);
        StoneWorks z = new StoneWorks();
        z.stone(1, 0);
        dueNone("no gangs", z);
    }

    private static void rampAsItIs() {
        C.sentence(15, "the RAMP as it is now.");
        for (int course : new int[] {0, 1, 9}) {
            StoneWorks low = ready(course, new int[] {200, 200}, course);
            dueNone("as high as course " + course, low);
            low.raise(0);
            dueNone("while it is raised", low);
            low.pass(1);
            duePlan("higher than course " + course, low, course + 4, 0, 0, 0, course + 4);
        }
        StoneWorks foot = ready(1, new int[] {200}, 1);
        Sites.bring(foot, 0, 0, 3);
        dueNone("at the foot of a ramp that is too low", foot);
        Sites.raiseRamp(foot, 0, 2);
        duePlan("at the foot of one that isn't", foot, 2, 0, 0, 0, 2);
        dueNone("high by 1 for course 9", ready(1, new int[] {200}, 9));
        dueNone("one of two is too high", ready(1, new int[] {200}, 0, 1));
    }

    private static void foodFeastsRopes() {
        C.sentence(15, "Food, FEASTS, ropes are left out of account;");
        StoneWorks x = new StoneWorks();
        x.boat(0, 20);
        x.gang(20);
        Checks.tableOf(x, "earth 1");
        Sites.raiseRamp(x, 0, 1);
        C.due("no food is left", x.count(3), 0);
        x.spell(0, 0, 3000);
        x.spell(2, 0, 3000);
        Checks.tableOf(x, QUICK + ";rope 1");
        x.stone(20, 0);
        duePlan("hunger, feasts and a rope for one", x, 4, 0, 0, 0, 4);
    }

    private static void dryDays() {
        C.sentence(15, "MEN at once as by a dry DAY.");
        StoneWorks x = ready(1, new int[] {10}, 0);
        x.spell(1, 0, 3000);
        Checks.tableOf(x, QUICK + ";flat 10 99;ramp 10 99");
        duePlan("heavy when wet, and it is wet", x, 4, 0, 0, 0, 4);
        Checks.tableOf(x, QUICK + ";flat 11 1");
        dueNone("heavy when dry, flat", x);
        Checks.tableOf(x, QUICK + ";ramp 11 1");
        dueNone("heavy when dry, on the ramp", x);
    }

    private static void menOfAGang() {
        C.sentence(15, "A STONE that wants more MEN than a GANG has can't be its;");
        for (String way : new String[] {"flat", "ramp"}) {
            // weight 10: as many MEN as the number says
            StoneWorks x = ready(1, new int[] {10, 11}, 0);
            Checks.tableOf(x, QUICK + ";" + way + " 10 1");
            duePlan(way + ": ten of ten", x, 4, 0, 0, 0, 4);
            Checks.tableOf(x, QUICK + ";" + way + " 11 1");
            duePlan(way + ": eleven of ten", x, 4, 0, 1, 0, 4);
            Checks.tableOf(x, QUICK + ";" + way + " 12 1");
            dueNone(way + ": twelve of eleven", x);
        }
        StoneWorks y = ready(1, new int[] {10, 11});
        y.stone(21, 0);
        // weight 21, flat 5: 10.5, upwards
        C.due("the pull, upwards", y.plan(), y.count(0) + 5);
        C.due("the larger gang", y.planned(0, 1), 1);
    }

    private static void menByStage() {
        C.sentence(15, "from its stage to the end,");
        StoneWorks x = ready(1, new int[] {50, 10}, 0);
        int[] last = {4, 3, 2, 1, 0};
        for (int state = 0; state < 5; state++) {
            Sites.bring(x, 0, 0, state);
            duePlan("state " + state, x, last[state], 0, 0, 0, last[state]);
            Checks.tableOf(x, QUICK + ";ramp 99 99");
            if (state < 4) {
                dueNone("a ramp for 99 of 50, state " + state, x);
            } else {
                duePlan("the ramp is behind it", x, 0, 0, 0, 0, 0);
            }
            Checks.tableOf(x, QUICK + ";flat 99 99");
            dueNone("to be laid it is hauled, state " + state, x);
            Checks.tableOf(x, QUICK);
        }
    }

    private static void cuttingUpwards() {
        C.sentence(15, "cutting takes MEN's days by MEN, upwards, DAYS.");
        int[] weights = {1, 9, 10, 11, 20, 21, 99};
        int[] days = {1, 1, 1, 2, 2, 3, 10};
        for (int i = 0; i < weights.length; i++) {
            StoneWorks x = Sites.withRamp(QUICK + ";flat 1 1;ramp 1 1", 1, 10);
            x.stone(weights[i], 0);
            duePlan("weight " + weights[i] + " by ten", x, days[i] + 3, 0, 0, 0, days[i] + 3);
        }
        StoneWorks y = Sites.withRamp("cut 99;way 1;raft 1;flat 1 1;ramp 1 1", 1, 200);
        y.stone(99, 0);
        duePlan("9801 by 200", y, 53, 0, 0, 0, 53);
    }

    /** A STONE at the quay, the RAMP ready, rafts of three DAYS, the river not yet HIGH from NOW on. */
    private static StoneWorks atTheQuay() {
        StoneWorks x = Sites.onLowRiver(QUICK, 1, 20);
        x.stone(10, 0);
        Sites.bring(x, 0, 0, 2);
        Checks.tableOf(x, "raft 3");
        return x;
    }

    private static void raftsFirstDay() {
        C.sentence(15, "a raft begins on the first DAY from which on raft DAYS are HIGH;");
        StoneWorks x = atTheQuay();
        int now = x.count(0);
        dueNone("never high", x);
        x.spell(1, 0, 3000);
        x.spell(2, 0, 3000);
        dueNone("wet days and feasts aren't high", x);
        x.spell(0, 0, now + 1);
        dueNone("two days", x);
        x.spell(0, now + 20, now + 40);
        duePlan("later, and all three", x, 24, 0, 0, 0, 24);
        x.spell(0, now + 10, now + 12);
        duePlan("just three", x, 14, 0, 0, 0, 14);
        x.spell(0, now + 5, now + 6);
        duePlan("two are too few", x, 14, 0, 0, 0, 14);
        x.spell(0, now + 7, now + 7);
        duePlan("a third beside them", x, 9, 0, 0, 0, 9);
        x.spell(0, now + 3, now + 4);
        duePlan("two more ahead of them", x, 7, 0, 0, 0, 7);
        x.spell(0, now + 2, now + 2);
        duePlan("from NOW on", x, 4, 0, 0, 0, 4);
        StoneWorks y = atTheQuay();
        y.spell(0, y.count(0), y.count(0) + 2);
        duePlan("just three from NOW on", y, 4, 0, 0, 0, 4);
        y.pass(1);
        dueNone("a day later", y);
    }

    private static void raftsOverAGap() {
        C.sentence(15, "a raft begins on the first DAY from which on raft DAYS are HIGH;");
        // rafts of three DAYS; two SPELLS of two DAYS with one DAY between them, told in either order
        for (int first = 0; first <= 3; first += 3) {
            StoneWorks x = atTheQuay();
            int now = x.count(0);
            x.spell(0, now + first, now + first + 1);
            x.spell(0, now + 3 - first, now + 4 - first);
            x.spell(0, now + 6, now + 8);
            duePlan("over a gap", x, 10, 0, 0, 0, 10);
            x.spell(0, now + 2, now + 2);
            duePlan("the gap is closed", x, 4, 0, 0, 0, 4);
        }
        StoneWorks y = atTheQuay();
        int now = y.count(0);
        y.spell(0, now + 5, now + 6);
        y.spell(0, now + 4, now + 9);
        y.spell(0, now + 7, now + 8);
        y.pass(5);
        duePlan("one spell within another", y, 4, 0, 0, 0, 4);
    }

    private static void raftsWithFortySpells() {
        C.sentence(15, "SPELLS, 40 at most of all,");
        for (int fits = 0; fits <= 40; fits += 20) {
            StoneWorks x = atTheQuay();
            int now = x.count(0);
            // from the last to the first: two DAYS each, or three in the one that fits
            for (int i = 40; i >= 1; i--) {
                x.spell(0, now + 10 * i, now + 10 * i + (i == fits ? 2 : 1));
            }
            C.due("how many", x.count(8), 40);
            if (fits == 0) {
                dueNone("none of forty is long enough", x);
            } else {
                duePlan("spell " + fits + " of forty", x, 10 * fits + 4, 0, 0, 0, 10 * fits + 4);
            }
        }
    }

    private static void raftAtTheLastDays() {
        C.sentence(15, "a raft begins on the first DAY from which on raft DAYS are HIGH;");
        StoneWorks x = atTheQuay();
        x.spell(0, 2996, 3000);
        int now = x.count(0);
        duePlan("laid on day 3000", x, 3000 - now, 0, 0, 0, 3000 - now);
        StoneWorks y = atTheQuay();
        y.spell(0, 2997, 3000);
        dueNone("laid on day 3001", y);
        StoneWorks z = atTheQuay();
        z.spell(0, 2999, 3000);
        dueNone("the last two days", z);
    }

    private static void lesserCoursesFirst() {
        C.sentence(15, "a STONE is laid not ahead of the DAY behind that on which the last one of lesser COURSES is laid;");
        StoneWorks x = ready(2, new int[] {20, 20, 20}, 0, 1);
        duePlan("ready on the day behind", x, 5, 0, 0, 0, 4, 1, 1, 0, 5);
        Sites.bring(x, 0, 1, 4);
        duePlan("up already, but not laid ahead of it", x, 5, 0, 0, 0, 4, 1, 0, 5, 5);
        Sites.bring(x, 0, 0, 4);
        duePlan("both are up", x, 1, 0, 0, 0, 0, 1, 0, 1, 1);
        StoneWorks y = ready(3, new int[] {20, 20, 20}, 0, 1, 2);
        for (int stone = 0; stone < 3; stone++) {
            Sites.bring(y, 0, stone, 4);
        }
        duePlan("three courses, a day each", y, 2, 0, 0, 0, 0, 1, 0, 1, 1, 2, 0, 2, 2);
        StoneWorks z = ready(2, new int[] {20, 20, 20}, 1, 1);
        Sites.bring(z, 0, 0, 4);
        Sites.bring(z, 0, 1, 4);
        duePlan("the same course doesn't wait", z, 0, 0, 0, 0, 0, 1, 1, 0, 0);
    }

    private static void lesserCourseBehind() {
        C.sentence(15, "or is to be laid ahead of one of a lesser COURSE that comes behind it in the order.)");
        StoneWorks x = ready(2, new int[] {20}, 1, 0);
        duePlan("one gang", x, 10, 1, 0, 0, 4, 0, 0, 5, 10);
        StoneWorks y = ready(3, new int[] {20}, 2, 1, 0);
        for (int stone = 0; stone < 3; stone++) {
            Sites.bring(y, 0, stone, 4);
        }
        duePlan("three courses", y, 2, 2, 0, 0, 0, 1, 0, 1, 1, 0, 0, 2, 2);
        StoneWorks z = ready(2, new int[] {20}, 1, 0);
        Sites.bring(z, 0, 1, 5);
        duePlan("the lesser one is laid", z, 5, 0, 0, 0, 5);
    }

    private static void oneStoneAtATime() {
        C.sentence(15, "each STONE in that order begins on the first DAY on which its GANG is free (NOW at first).");
        StoneWorks x = ready(1, new int[] {20}, 0, 0, 0, 0, 0);
        duePlan("the day behind that on which it laid", x, 24, 0, 0, 0, 4, 1, 0, 5, 9, 2, 0, 10, 14, 3, 0, 15, 19, 4, 0, 20, 24);
    }

    private static void byDay3000() {
        C.sentence(15, "(One can't be if a STONE is never laid by DAY 3000,");
        StoneWorks x = ready(1, new int[] {20}, 0);
        Sites.passTo(x, 2996);
        duePlan("on day 3000", x, 4, 0, 0, 0, 4);
        x.pass(1);
        dueNone("on day 3001", x);
        StoneWorks y = ready(1, new int[] {20}, 0);
        Sites.bring(y, 0, 0, 4);
        Sites.passTo(y, 3000);
        duePlan("up on the last day", y, 0, 0, 0, 0, 0);
        y.stone(1, 0);
        dueNone("a second one", y);
        StoneWorks z = ready(1, new int[] {20}, 0);
        Sites.bring(z, 0, 0, 4);
        Sites.passTo(z, 3001);
        dueNone("up at the end", z);
        StoneWorks w = Sites.withRamp("cut 99;flat 1 1;ramp 1 1", 1, 1);
        w.stone(10, 0);
        w.stone(10, 0);
        w.stone(10, 0);
        duePlan("999 days each", w, 2996, 0, 0, 0, 998, 1, 0, 999, 1997, 2, 0, 1998, 2996);
        w.stone(1, 0);
        dueNone("a hundred more", w);
    }

    private static void lesserOnDay3000() {
        C.sentence(15, "(One can't be if a STONE is never laid by DAY 3000,");
        for (int day = 2999; day <= 3000; day++) {
            StoneWorks x = ready(2, new int[] {20, 20}, 0, 1);
            Sites.bring(x, 0, 0, 4);
            Sites.bring(x, 0, 1, 4);
            Sites.passTo(x, day);
            if (day == 2999) {
                duePlan("days 2999 and 3000", x, 1, 0, 0, 0, 0, 1, 0, 1, 1);
            } else {
                dueNone("days 3000 and 3001", x);
            }
        }
    }

    private static void firstByStones() {
        C.sentence(15, "of these the first order by STONES,");
        StoneWorks x = ready(1, new int[] {20, 20, 20}, 0, 0, 0);
        duePlan("a gang each", x, 4, 0, 0, 0, 4, 1, 1, 0, 4, 2, 2, 0, 4);
        StoneWorks y = ready(1, new int[] {20}, 0, 0);
        Sites.bring(y, 0, 1, 4);
        duePlan("either order ends on the same day", y, 5, 0, 0, 0, 4, 1, 0, 5, 5);
    }

    private static void firstByGangs() {
        C.sentence(15, "then the first by GANGS.");
        StoneWorks x = ready(1, new int[] {20, 200, 20}, 0);
        duePlan("any of three", x, 4, 0, 0, 0, 4);
        StoneWorks y = ready(1, new int[] {20, 20}, 0, 0, 0);
        duePlan("the first one twice", y, 9, 0, 0, 0, 4, 1, 0, 5, 9, 2, 1, 0, 4);
        StoneWorks z = ready(1, new int[] {20, 200, 20, 20, 20, 200});
        z.stone(99, 0);
        // 99 weights want 50 MEN: GANGS 1 and 5 alone
        duePlan("the first that can", z, 4, 0, 1, 0, 4);
    }

    private static void leastDay() {
        C.sentence(15, "The best: the least DAY on which the last one is laid;");
        StoneWorks x = ready(1, new int[] {10, 11, 12, 13, 14, 20});
        x.stone(20, 0);
        duePlan("the last gang is a day quicker", x, 4, 0, 5, 0, 4);
        StoneWorks y = Sites.onLowRiver(QUICK + ";flat 1 1;ramp 1 1", 1, 20);
        y.stone(60, 0);
        y.stone(20, 0);
        int now = y.count(0);
        y.spell(0, now + 2, now + 2);
        y.spell(0, now + 9, now + 20);
        // STONE 0 first would miss DAY 2 and begin the second one on DAY 12
        duePlan("the later stone first", y, 11, 1, 0, 0, 4, 0, 0, 5, 11);
    }

    // ---- promise 16

    private static void numbersOfAPlan() {
        C.sentence(16, "NONE without it, or for another what.");
        StoneWorks x = ready(1, new int[] {20}, 0, 0, 0, 0, 0);
        C.due("ahead of any plan", x.planned(0, 0), -1);
        x.plan();
        C.due("the last one", x.planned(4, 0), 4);
        for (int k : new int[] {-1, 5, 6, Sites.MIN, Sites.MAX}) {
            for (int what = 0; what < 4; what++) {
                C.due("planned(" + k + ", " + what + ")", x.planned(k, what), -1);
            }
        }
        for (int what : new int[] {-1, 4, 5, Sites.MIN, Sites.MAX}) {
            C.due("planned(0, " + what + ")", x.planned(0, what), -1);
            C.due("planned(4, " + what + ")", x.planned(4, what), -1);
        }
    }

    private static void latestThatToldADay() {
        C.sentence(16, "Of the latest plan() that told a DAY,");
        StoneWorks x = ready(1, new int[] {20, 20}, 0);
        int now = x.count(0);
        C.due("plan()", x.plan(), now + 4);
        x.stone(10, 1);
        dueNone("the ramp is too low", x);
        C.due("it stays", x.planned(0, 3), now + 4);
        x.send(0, 0);
        dueNone("worked on", x);
        C.due("it stays", x.planned(0, 3), now + 4);
        x.pass(1);
        C.due("a day doesn't change it", x.planned(0, 2), now);
        for (int i = 0; i < 5; i++) {
            x.stone(10, 0);
        }
        dueNone("too many", x);
        C.due("it stays", x.planned(0, 3), now + 4);
        C.due("the second one is none of it", x.planned(1, 0), -1);
        StoneWorks y = ready(1, new int[] {20}, 0);
        y.stone(10, 9);
        dueNone("never a plan", y);
        C.due("none is told", y.planned(0, 0), -1);
    }

    private static void fewerStonesThanBefore() {
        C.sentence(16, "Of the latest plan() that told a DAY, STONE k of its order");
        StoneWorks x = ready(2, new int[] {20}, 1, 0, 0);
        duePlan("three", x, 15, 1, 0, 0, 4, 2, 0, 5, 9, 0, 0, 10, 15);
        Sites.bring(x, 0, 1, 5);
        duePlan("two", x, 10, 2, 0, 0, 4, 0, 0, 5, 10);
        Sites.lose(x, 0, 2);
        duePlan("one", x, 5, 0, 0, 0, 5);
        Sites.bring(x, 0, 0, 5);
        duePlan("none", x, -1);
        x.stone(10, 0);
        duePlan("a new one", x, 4, 3, 0, 0, 4);
    }
}
