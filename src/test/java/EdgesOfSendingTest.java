/** The boundary cases of promises 9 to 11: a GANG is SENT to a STONE or to the RAMP, and CALLED OFF. */
public final class EdgesOfSendingTest {
    private static final Checks C = new Checks();
    private static final String QUICK = Sites.QUICK;
    private static final int[] NO_NUMBERS = {-1, -2, Sites.MIN, Sites.MAX, 6, 30};

    public static void main(String[] args) {
        noSuchOne();
        theEnd();
        hasAWork();
        anotherWorksOnIt();
        laidOrLost();
        aboveTheRope();
        aboveTheMen();
        asWetAsNow();
        noHauls();
        notHigh();
        rampTooLow();
        lesserCourses();
        refusedChangesNothing();
        lengths();
        noSuchGangForTheRamp();
        theEndForTheRamp();
        hasAWorkForTheRamp();
        anotherRaises();
        rampIsTen();
        earthOfEachCourse();
        withoutAWork();
        whatWasDoneIsGone();
        onTheRiver();
        calledOffIsFree();
        C.finish();
    }

    // ---- promise 9

    private static void noSuchOne() {
        C.sentence(9, "1 no such GANG or STONE,");
        StoneWorks x = Sites.works(QUICK, 10, 10);
        x.stone(5, 0);
        x.stone(5, 0);
        for (int n : NO_NUMBERS) {
            C.due("send(" + n + ", 0)", x.send(n, 0), 1);
            C.due("send(0, " + n + ")", x.send(0, n), 1);
        }
        C.due("the number behind the last gang", x.send(2, 0), 1);
        C.due("the number behind the last stone", x.send(0, 2), 1);
        C.due("the last ones", x.send(1, 1), 0);
        C.due("1 ahead of 2", x.send(1, 2), 1);
        C.due("1 ahead of 3", x.send(2, 1), 1);
        StoneWorks none = new StoneWorks();
        C.due("no gangs at all", none.send(0, 0), 1);
        none.gang(5);
        C.due("no stones at all", none.send(0, 0), 1);
    }

    private static void theEnd() {
        C.sentence(9, "or the end;");
        StoneWorks x = Sites.works(QUICK, 1, 1);
        x.stone(50, 0);
        x.stone(50, 0);
        Sites.passTo(x, 3000);
        C.due("on the last day", x.send(0, 0), 0);
        x.pass(1);
        C.due("at the end", x.send(1, 1), 1);
        C.due("1 ahead of 2", x.send(0, 1), 1);
        C.due("1 ahead of 3", x.send(1, 0), 1);
        C.due("nobody works on it", x.about(1, 1), -1);
    }

    private static void hasAWork() {
        C.sentence(9, "2 the GANG has a WORK;");
        StoneWorks x = Sites.works(QUICK, 50, 50);
        x.stone(99, 0);
        x.stone(99, 0);
        x.stone(5, 0);
        Sites.lose(x, 0, 2);
        x.send(0, 0);
        C.due("its own stone", x.send(0, 0), 2);
        C.due("a free one", x.send(0, 1), 2);
        x.send(1, 1);
        C.due("2 ahead of 3", x.send(0, 1), 2);
        C.due("2 ahead of 4", x.send(0, 2), 2);
        x.callOff(1);
        x.raise(1);
        C.due("the ramp is a work, too", x.send(1, 1), 2);
    }

    private static void anotherWorksOnIt() {
        C.sentence(9, "3 another one works on it;");
        StoneWorks x = Sites.works("cut 1;way 9", 50, 1);
        x.stone(50, 0);
        x.send(0, 0);
        C.due("while it is cut", x.send(1, 0), 3);
        x.pass(1);
        x.send(0, 0);
        C.due("while it is hauled: 3 ahead of 6", x.send(1, 0), 3);
        Checks.tableOf(x, "rope 1");
        C.due("3 ahead of 5", x.send(1, 0), 3);
        x.callOff(0);
        C.due("no longer", x.send(1, 0), 5);
    }

    private static void laidOrLost() {
        C.sentence(9, "4 it is laid or lost;");
        StoneWorks x = Sites.withRamp(QUICK, 1, 50, 1);
        x.stone(50, 0);
        x.stone(50, 0);
        Sites.bring(x, 0, 0, 4);
        C.due("up: not yet", x.send(1, 0), 6);
        Sites.bring(x, 0, 0, 5);
        C.due("laid", x.send(0, 0), 4);
        Sites.lose(x, 0, 1);
        C.due("lost", x.send(0, 1), 4);
        C.due("laid, and a gang of one", x.send(1, 0), 4);
    }

    private static void aboveTheRope() {
        C.sentence(9, "5 (HAULS) the PULL that it wants (of NOW, as dry or wet as that is) is above the rope;");
        // flat 5: weights 20 and 21 pull 10 and 11
        StoneWorks x = Sites.withRamp(QUICK, 1, 200, 10);
        x.stone(20, 0);
        x.stone(21, 0);
        for (int state = 1; state <= 4; state++) {
            Sites.bring(x, 0, 0, state);
            Sites.bring(x, 0, 1, state);
            if (state == 2) {
                continue;
            }
            Checks.tableOf(x, "rope 10");
            C.due("as much as the rope bears, state " + state, x.send(0, 0), 0);
            x.callOff(0);
            C.due("one more than it bears, state " + state, x.send(0, 1), 5);
            C.due("5 ahead of 6, state " + state, x.send(1, 1), 5);
            Checks.tableOf(x, QUICK);
        }
        StoneWorks z = Sites.works(QUICK, 200);
        z.stone(50, 0);
        Sites.bring(z, 0, 0, 1);
        Checks.tableOf(z, "flat 40 1");
        C.due("200, the rope without a clause", z.send(0, 0), 0);
        z.callOff(0);
        Checks.tableOf(z, "flat 41 1");
        C.due("205, more than any rope", z.send(0, 0), 5);
        StoneWorks y = Sites.works(QUICK, 200);
        y.stone(30, 5);
        Sites.bring(y, 0, 0, 3);
        Checks.tableOf(y, "rope 14");
        C.due("5 ahead of 8", y.send(0, 0), 5);
        Checks.tableOf(y, "rope 15");
        C.due("8 then", y.send(0, 0), 8);
    }

    private static void aboveTheMen() {
        C.sentence(9, "6 or above the GANG's MEN;");
        StoneWorks x = Sites.withRamp(QUICK, 1, 200, 10, 9);
        x.stone(20, 0);
        for (int state = 1; state <= 4; state++) {
            Sites.bring(x, 0, 0, state);
            if (state == 2) {
                continue;
            }
            C.due("ten of ten, state " + state, x.send(1, 0), 0);
            x.callOff(1);
            C.due("ten of nine, state " + state, x.send(2, 0), 6);
        }
        StoneWorks y = Sites.works(QUICK, 200, 9);
        y.stone(20, 5);
        Sites.bring(y, 0, 0, 3);
        C.due("6 ahead of 8", y.send(1, 0), 6);
        StoneWorks z = Sites.withRamp(QUICK, 2, 200, 9);
        z.stone(20, 1);
        z.stone(20, 0);
        Sites.bring(z, 0, 0, 4);
        C.due("6 ahead of 9", z.send(1, 0), 6);
        Checks.tableOf(z, "rope 9");
        C.due("5 ahead of 9", z.send(0, 0), 5);
    }

    private static void asWetAsNow() {
        C.sentence(9, "dry, or wet if the DAY is) by ten, upwards: PULL.");
        // weight, number for ten weights, PULL
        int[][] rows = {{1, 1, 1}, {9, 1, 1}, {10, 1, 1}, {11, 1, 2}, {2, 5, 1}, {3, 7, 3}, {20, 99, 198}, {10, 10, 10}, {7, 10, 7}};
        for (int[] row : rows) {
            for (int wet = 0; wet <= 1; wet++) {
                String numbers = wet == 1 ? " 99 " + row[1] : " " + row[1] + " 99";
                duePull("flat" + numbers, 1, row, wet == 1);
                duePull("ramp" + numbers, 3, row, wet == 1);
                duePull("flat" + numbers, 4, row, wet == 1);
            }
        }
    }

    /** A GANG of as many MEN as the PULL is enough, one MAN less isn't. */
    private static void duePull(String clause, int state, int[] row, boolean wet) {
        int pull = row[2];
        StoneWorks x = Sites.withRamp(QUICK, 1, 200, pull, Math.max(1, pull - 1));
        x.stone(row[0], 0);
        Sites.bring(x, 0, 0, state);
        if (wet) {
            x.spell(1, x.count(0), x.count(0));
        }
        Checks.tableOf(x, clause);
        String name = clause + ", weight " + row[0] + (wet ? ", wet" : ", dry") + ", state " + state;
        C.due(name + ": one less", x.send(2, 0), pull > 1 ? 6 : 0);
        x.callOff(2);
        C.due(name, x.send(1, 0), 0);
    }

    private static void noHauls() {
        C.sentence(9, "1, 3 and 4 are HAULS, which want MEN at once:");
        StoneWorks x = Sites.works("flat 99 99;ramp 99 99;rope 1", 1, 200);
        x.stone(99, 0);
        C.due("one man cuts the heaviest", x.send(0, 0), 0);
        StoneWorks y = Sites.works(QUICK, 1, 200);
        y.stone(99, 0);
        Sites.bring(y, 1, 0, 2);
        Checks.tableOf(y, "flat 99 99;ramp 99 99;rope 1");
        C.due("one man rafts the heaviest", y.send(0, 0), 0);
    }

    private static void notHigh() {
        C.sentence(9, "7 (rafted) NOW is not HIGH;");
        StoneWorks x = Sites.fed(10);
        Checks.tableOf(x, QUICK);
        x.stone(5, 0);
        C.due("cutting wants no river", x.send(0, 0), 0);
        x.pass(1);
        C.due("hauling wants no river", x.send(0, 0), 0);
        x.pass(1);
        C.due("never high", x.send(0, 0), 7);
        x.spell(0, 0, 1);
        x.spell(0, 3, 3000);
        C.due("high yesterday and tomorrow", x.send(0, 0), 7);
        x.spell(1, 2, 2);
        x.spell(2, 2, 2);
        C.due("a wet feast isn't high", x.send(0, 0), 7);
        x.spell(0, 2, 2);
        C.due("high, and a feast", x.send(0, 0), 0);
    }

    private static void rampTooLow() {
        C.sentence(9, "8 (hauled up) the RAMP isn't HIGH by more COURSES than its own number;");
        StoneWorks x = Sites.works(QUICK, 200);
        int[] courses = {0, 1, 8, 9};
        for (int i = 0; i < courses.length; i++) {
            x.stone(1, courses[i]);
            Sites.bring(x, 0, i, 3);
        }
        for (int high = 0; high <= 10; high++) {
            for (int i = 0; i < courses.length; i++) {
                C.due("course " + courses[i] + ", high by " + high, x.send(0, i), high > courses[i] ? 0 : 8);
                x.callOff(0);
            }
            x.raise(0);
            x.pass(1);
        }
    }

    private static void lesserCourses() {
        C.sentence(9, "9 (laid) a STONE of a lesser COURSE is neither laid nor lost.");
        for (int state = 0; state <= 5; state++) {
            StoneWorks x = Sites.withRamp(QUICK, 3, 200);
            x.stone(1, 1);
            x.stone(1, 1);
            x.stone(1, 2);
            x.stone(1, 0);
            Sites.bring(x, 0, 0, 4);
            Sites.bring(x, 0, 3, state);
            C.due("the lesser one's state is " + state, x.send(0, 0), state < 5 ? 9 : 0);
        }
        StoneWorks y = Sites.withRamp(QUICK, 2, 200, 200);
        y.stone(1, 1);
        y.stone(1, 0);
        Sites.bring(y, 0, 0, 4);
        Sites.bring(y, 0, 1, 2);
        y.send(1, 1);
        C.due("while the lesser one is on the river", y.send(0, 0), 9);
        y.callOff(1);
        C.due("the lesser one is lost", y.send(0, 0), 0);
        StoneWorks z = Sites.withRamp(QUICK, 2, 200);
        z.stone(1, 0);
        for (int i = 1; i < 30; i++) {
            z.stone(1, 1);
        }
        Sites.bring(z, 0, 29, 4);
        C.due("the lesser one is the first", z.send(0, 29), 9);
        Sites.bring(z, 0, 0, 5);
        C.due("then it is laid", z.send(0, 29), 0);
        StoneWorks w = Sites.withRamp(QUICK, 2, 200);
        for (int i = 1; i < 30; i++) {
            w.stone(1, 1);
        }
        Sites.bring(w, 0, 0, 4);
        w.stone(1, 0);
        C.due("the lesser one is the last", w.send(0, 0), 9);
    }

    private static void refusedChangesNothing() {
        C.sentence(9, "SENT to a STONE a GANG is told 0, or the least that holds:");
        StoneWorks x = Sites.works(QUICK, 200, 1);
        x.stone(99, 5);
        Sites.bring(x, 0, 0, 1);
        C.due("6", x.send(1, 0), 6);
        C.due("the gang has no work", x.gangs(1, 1), -1);
        C.due("nothing is left", x.gangs(1, 2), 0);
        C.due("nobody works on it", x.about(0, 1), -1);
        Sites.bring(x, 0, 0, 3);
        C.due("8", x.send(0, 0), 8);
        x.pass(9);
        C.due("it stays at the foot", x.about(0, 0), 3);
        C.due("no day stood still", x.gangs(0, 4), 0);
    }

    private static void lengths() {
        C.sentence(9, "SENT to a STONE it does what that wants next:");
        StoneWorks x = Sites.withRamp("cut 99;way 20;raft 20", 10, 200);
        x.stone(99, 9);
        int[] left = {99 * 99, 20, 20, 10, 1};
        int[] days = {50, 20, 20, 10, 1};
        for (int state = 0; state < 5; state++) {
            Checks.tableOf(x, state == 3 ? "ramp 1 1" : "cut 99;way 20;raft 20");
            C.due("send, state " + state, x.send(0, 0), 0);
            C.due("left, state " + state, x.gangs(0, 2), left[state]);
            x.pass(days[state] - 1);
            C.due("a day too few, state " + state, x.about(0, 0), state);
            x.pass(1);
            C.due("done, state " + state, x.about(0, 0), state + 1);
        }
        StoneWorks y = Sites.withRamp(QUICK, 1, 1);
        y.stone(1, 0);
        for (int state = 0; state < 5; state++) {
            y.send(0, 0);
            C.due("the least, state " + state, y.gangs(0, 2), 1);
            y.pass(1);
        }
        C.due("laid", y.about(0, 0), 5);
    }

    // ---- promise 10

    private static void noSuchGangForTheRamp() {
        C.sentence(10, "SENT to the RAMP: 1;");
        StoneWorks x = Sites.works(QUICK, 10, 10);
        for (int n : NO_NUMBERS) {
            C.due("raise(" + n + ")", x.raise(n), 1);
        }
        C.due("the number behind the last", x.raise(2), 1);
        C.due("the last", x.raise(1), 0);
        C.due("1 ahead of 3", x.raise(2), 1);
        C.due("no gangs at all", new StoneWorks().raise(0), 1);
    }

    private static void theEndForTheRamp() {
        C.sentence(10, "or the end;");
        StoneWorks x = Sites.works("earth 99", 1, 1);
        Sites.passTo(x, 3000);
        C.due("on the last day", x.raise(0), 0);
        x.pass(1);
        C.due("1 ahead of 2", x.raise(0), 1);
        C.due("1 ahead of 3", x.raise(1), 1);
        x.callOff(0);
        C.due("at the end", x.raise(0), 1);
    }

    private static void hasAWorkForTheRamp() {
        C.sentence(10, "SENT to the RAMP: 1; 2;");
        StoneWorks x = Sites.works(QUICK, 10, 10);
        x.stone(99, 0);
        x.send(0, 0);
        C.due("it cuts", x.raise(0), 2);
        x.raise(1);
        C.due("it raises", x.raise(1), 2);
        C.due("2 ahead of 3", x.raise(0), 2);
        StoneWorks y = Sites.withRamp(QUICK, 10, 200);
        y.stone(99, 0);
        Checks.tableOf(y, "cut 99");
        y.send(0, 0);
        C.due("2 ahead of 4", y.raise(0), 2);
    }

    private static void anotherRaises() {
        C.sentence(10, "3 another one raises it;");
        StoneWorks x = Sites.works("earth 10", 10, 10, 10);
        x.raise(2);
        C.due("a lesser number", x.raise(0), 3);
        C.due("no work by that", x.gangs(0, 1), -1);
        x.pass(1);
        C.due("it is raised", x.count(4), 1);
        C.due("free again", x.raise(0), 0);
        C.due("a greater number", x.raise(1), 3);
        x.callOff(0);
        C.due("called off", x.raise(1), 0);
    }

    private static void rampIsTen() {
        C.sentence(10, "4 it is HIGH by 10.");
        StoneWorks x = Sites.withRamp(QUICK, 9, 200);
        C.due("high by 9", x.raise(0), 0);
        x.pass(1);
        C.due("count(4)", x.count(4), 10);
        C.due("high by 10", x.raise(0), 4);
        C.due("no work by that", x.gangs(0, 1), -1);
        x.pass(9);
        C.due("10 at most", x.count(4), 10);
    }

    private static void earthOfEachCourse() {
        C.sentence(10, "times the number of that COURSE and one;");
        for (int earth : new int[] {1, 99}) {
            StoneWorks x = Sites.works("earth " + earth, 200);
            for (int course = 0; course < 10; course++) {
                x.raise(0);
                int due = earth * (course + 1);
                C.due("earth " + earth + ", course " + course, x.gangs(0, 2), due);
                int days = (due + 199) / 200;
                if (days > 1) {
                    x.pass(days - 1);
                    C.due("a day too few", x.count(4), course);
                }
                x.pass(1);
                C.due("raised", x.count(4), course + 1);
            }
        }
    }

    // ---- promise 11

    private static void withoutAWork() {
        C.sentence(11, "false, and nothing happens, without it.");
        StoneWorks x = Sites.works(QUICK, 10, 10);
        x.stone(99, 0);
        x.send(1, 0);
        x.pass(1);
        C.due("no work", x.callOff(0), false);
        for (int n : NO_NUMBERS) {
            C.due("callOff(" + n + ")", x.callOff(n), false);
        }
        C.due("the number behind the last", x.callOff(2), false);
        C.due("the other one works on", x.gangs(1, 1), 0);
        C.due("what it did isn't gone", x.gangs(1, 2), 89);
        C.due("with a work", x.callOff(1), true);
        C.due("once more", x.callOff(1), false);
        C.due("no gangs at all", new StoneWorks().callOff(0), false);
    }

    private static void whatWasDoneIsGone() {
        C.sentence(11, "A WORK may be CALLED OFF: what was done of it is gone");
        String slow = "cut 9;way 5;earth 50";
        StoneWorks x = Sites.withRamp(slow, 3, 20);
        x.stone(10, 2);
        for (int state = 0; state < 5; state++) {
            if (state != 2) {
                x.send(0, 0);
                int all = x.gangs(0, 2);
                if (state != 4) {
                    x.pass(1);
                }
                C.due("callOff, state " + state, x.callOff(0), true);
                C.due("its state stays " + state, x.about(0, 0), state);
                C.due("nobody works on it", x.about(0, 1), -1);
                C.due("no work", x.gangs(0, 1), -1);
                C.due("nothing is left", x.gangs(0, 2), 0);
                x.pass(1);
                C.due("no day does anything, state " + state, x.about(0, 0), state);
                x.send(0, 0);
                C.due("from the beginning, state " + state, x.gangs(0, 2), all);
            }
            Sites.bring(x, 0, 0, state + 1);
        }
        x.raise(0);
        x.pass(1);
        C.due("raising, left", x.gangs(0, 2), 180);
        C.due("callOff of the ramp", x.callOff(0), true);
        C.due("its height stays", x.count(4), 3);
        x.raise(0);
        C.due("the ramp from the beginning", x.gangs(0, 2), 200);
    }

    private static void onTheRiver() {
        C.sentence(11, "(a STONE on the river is LOST)");
        for (int days = 0; days <= 2; days++) {
            StoneWorks x = Sites.works("cut 1;way 1;raft 3", 10);
            x.stone(5, 0);
            x.stone(5, 0);
            Sites.bring(x, 0, 0, 2);
            Sites.bring(x, 0, 1, 2);
            x.send(0, 0);
            for (int i = 0; i < days; i++) {
                x.pass(1);
            }
            C.due("callOff on day " + days + " of three", x.callOff(0), true);
            C.due("lost", x.about(0, 0), 6);
            C.due("how many", x.count(6), 1);
            C.due("nobody works on it", x.about(0, 1), -1);
            C.due("the one at the quay isn't", x.about(1, 0), 2);
        }
    }

    private static void calledOffIsFree() {
        C.sentence(11, "A GANG's WORK is CALLED OFF: true;");
        StoneWorks x = Sites.works("cut 9", 10, 20);
        x.stone(10, 0);
        x.stone(10, 0);
        x.send(0, 0);
        x.callOff(0);
        C.due("another one may take it", x.send(1, 0), 0);
        C.due("and it another", x.send(0, 1), 0);
        Sites.passTo(x, 3001);
        StoneWorks y = Sites.works("cut 99", 1);
        y.stone(99, 0);
        y.send(0, 0);
        Sites.passTo(y, 3001);
        C.due("with a work at the end", y.callOff(0), true);
    }
}
