/** The boundary cases of promise 12: DAYS go by. */
public final class EdgesOfDaysTest {
    private static final Checks C = new Checks();
    private static final String QUICK = Sites.QUICK;

    public static void main(String[] args) {
        oneTo400();
        others();
        beyondTheEnd();
        atTheEnd();
        workOfTheLastDay();
        mostFood();
        mostFoodAheadOfTheMeal();
        justEnoughFood();
        allMenAtOnce();
        nobodyToEat();
        boatsLandFirst();
        feastWithJustEnough();
        feastWithTooLittle();
        hungerStopsWork();
        menAreDone();
        stillByTheRope();
        stillByTheMen();
        stillByWet();
        rampHaulStandsStill();
        layingStandsStill();
        idleIsNotStill();
        raftOnTheLastHighDay();
        raftOnADayThatIsNotHigh();
        raftOnAFeast();
        raftInHunger();
        othersOutliveAFeast();
        tableAsSent();
        ropeAndPullOfTheDay();
        rampNeverHigherThanTen();
        doneToTheEnd();
        markAndDay();
        C.finish();
    }

    private static void oneTo400() {
        C.sentence(12, "So many DAYS (1 to 400) go by: NOW;");
        StoneWorks x = new StoneWorks();
        C.due("pass(1)", x.pass(1), 1);
        C.due("pass(400)", x.pass(400), 401);
        C.due("pass(399)", x.pass(399), 800);
        C.due("count(0)", x.count(0), 800);
        StoneWorks y = Sites.fed(1);
        y.stone(99, 0);
        y.send(0, 0);
        y.pass(150);
        C.due("each of them is lived", y.gangs(0, 2), 48);
        C.due("and eaten on", y.count(3), 9999850);
    }

    private static void others() {
        C.sentence(12, "NONE, and nothing happens, for others,");
        StoneWorks x = Sites.fed(1);
        x.stone(99, 0);
        x.send(0, 0);
        x.boat(0, 1);
        for (int days : new int[] {0, -1, -400, 401, 3001, Sites.MIN, Sites.MAX}) {
            C.due("pass(" + days + ")", x.pass(days), -1);
            C.due("NOW", x.count(0), 0);
            C.due("left", x.gangs(0, 2), 198);
            C.due("food", x.count(3), 0);
        }
    }

    private static void beyondTheEnd() {
        C.sentence(12, "or beyond 3001.");
        StoneWorks x = Sites.fed(1);
        Sites.passTo(x, 2602);
        C.due("400 of 399", x.pass(400), -1);
        C.due("NOW", x.count(0), 2602);
        C.due("nobody has eaten", x.count(3), 10000000 - 2602);
        C.due("399 of 399", x.pass(399), 3001);
        StoneWorks y = new StoneWorks();
        Sites.passTo(y, 2601);
        C.due("400 of 400", y.pass(400), 3001);
        StoneWorks z = new StoneWorks();
        Sites.passTo(z, 3000);
        C.due("2 of 1", z.pass(2), -1);
        C.due("1 of 1", z.pass(1), 3001);
    }

    private static void atTheEnd() {
        C.sentence(12, "3001 at the end: then nothing is done any more");
        StoneWorks x = Sites.works("cut 99", 1);
        x.stone(99, 0);
        x.send(0, 0);
        Sites.passTo(x, 3001);
        int left = x.gangs(0, 2);
        int food = x.count(3);
        for (int days : new int[] {1, 2, 400}) {
            C.due("pass(" + days + ")", x.pass(days), -1);
            C.due("NOW", x.count(0), 3001);
            C.due("left", x.gangs(0, 2), left);
            C.due("food", x.count(3), food);
        }
    }

    private static void workOfTheLastDay() {
        C.sentence(12, "DAYS 0 to 3000;");
        StoneWorks x = Sites.works(QUICK, 10);
        x.stone(5, 0);
        Sites.passTo(x, 3000);
        x.send(0, 0);
        x.pass(1);
        C.due("it is cut on day 3000", x.about(0, 0), 1);
        StoneWorks y = Sites.works("cut 1", 10);
        y.stone(5, 0);
        y.send(0, 0);
        y.pass(1);
        C.due("it is cut on day 0", y.about(0, 0), 1);
    }

    private static void mostFood() {
        C.sentence(12, "10000000 at most: what would be more is not taken");
        StoneWorks x = new StoneWorks();
        for (int i = 0; i < 9; i++) {
            x.boat(0, 1000000);
        }
        x.boat(0, 999999);
        x.boat(1, 1);
        x.boat(2, 1);
        x.boat(3, 1000000);
        x.boat(3, 1000000);
        int[] due = {9999999, 10000000, 10000000, 10000000};
        for (int day = 0; day < due.length; day++) {
            x.pass(1);
            C.due("behind day " + day, x.count(3), due[day]);
        }
        StoneWorks y = new StoneWorks();
        for (int i = 0; i < 9; i++) {
            y.boat(0, 1000000);
        }
        y.boat(0, 999999);
        y.boat(1, 1000000);
        y.pass(2);
        C.due("a boat of which one is taken", y.count(3), 10000000);
        StoneWorks z = new StoneWorks();
        for (int i = 0; i < 40; i++) {
            z.boat(0, 1000000);
        }
        z.pass(1);
        C.due("forty full boats", z.count(3), 10000000);
    }

    private static void mostFoodAheadOfTheMeal() {
        C.sentence(12, "A DAY: BOATS of it land (FOOD).");
        StoneWorks x = Sites.fed(200);
        x.pass(1);
        C.due("food", x.count(3), 9999800);
        x.boat(1, 201);
        x.pass(1);
        C.due("one too many, and then the meal", x.count(3), 9999800);
    }

    private static void justEnoughFood() {
        C.sentence(12, "or FOOD is less than all MEN: nobody works");
        for (int food = 9; food <= 11; food++) {
            StoneWorks x = new StoneWorks();
            x.boat(0, food);
            x.gang(10);
            x.stone(5, 0);
            x.send(0, 0);
            x.pass(1);
            boolean enough = food >= 10;
            C.due("ten men, food " + food + ": worked", x.about(0, 0), enough ? 1 : 0);
            C.due("ten men, food " + food + ": left over", x.count(3), enough ? food - 10 : food);
            C.due("ten men, food " + food + ": hunger", x.count(11), enough ? 0 : 1);
        }
    }

    private static void allMenAtOnce() {
        C.sentence(12, "or FOOD is less than all MEN: nobody works");
        StoneWorks x = new StoneWorks();
        x.boat(0, 1199);
        for (int g = 0; g < 6; g++) {
            x.gang(200);
        }
        x.stone(5, 0);
        x.send(0, 0);
        x.pass(1);
        C.due("1199 for 1200, one gang at work", x.about(0, 0), 0);
        C.due("nobody eats", x.count(3), 1199);
        x.boat(1, 1);
        x.pass(1);
        C.due("1200 for 1200", x.about(0, 0), 1);
        C.due("all eat, those without a work too", x.count(3), 0);
        C.due("one day of hunger", x.count(11), 1);
    }

    private static void nobodyToEat() {
        C.sentence(12, "or FOOD is less than all MEN: nobody works");
        StoneWorks x = new StoneWorks();
        x.pass(400);
        C.due("no men, no hunger", x.count(11), 0);
        x.gang(1);
        x.pass(1);
        C.due("one man, no food", x.count(11), 1);
    }

    private static void boatsLandFirst() {
        C.sentence(12, "A DAY: BOATS of it land (FOOD).");
        StoneWorks x = new StoneWorks();
        x.gang(10);
        x.boat(0, 4);
        x.boat(0, 6);
        x.boat(2, 10);
        x.pass(1);
        C.due("both feed that day", x.count(11), 0);
        x.pass(1);
        C.due("a day without", x.count(11), 1);
        x.pass(1);
        C.due("the boat of the day", x.count(11), 1);
        C.due("food", x.count(3), 0);
    }

    private static void feastWithJustEnough() {
        C.sentence(12, "(a FEAST's MEN eat, if there is enough)");
        StoneWorks x = new StoneWorks();
        x.boat(0, 10);
        x.gang(10);
        x.spell(2, 0, 0);
        x.stone(5, 0);
        x.send(0, 0);
        x.pass(1);
        C.due("they eat", x.count(3), 0);
        C.due("nobody works", x.gangs(0, 2), 10);
        C.due("no hunger", x.count(11), 0);
    }

    private static void feastWithTooLittle() {
        C.sentence(12, "(a FEAST's MEN eat, if there is enough)");
        StoneWorks x = new StoneWorks();
        x.boat(0, 9);
        x.gang(10);
        x.spell(2, 0, 0);
        x.pass(1);
        C.due("nobody eats", x.count(3), 9);
        C.due("food was less than all men", x.count(11), 1);
    }

    private static void hungerStopsWork() {
        C.sentence(12, "or FOOD is less than all MEN: nobody works");
        StoneWorks x = new StoneWorks();
        x.boat(0, 50);
        x.gang(10);
        Checks.tableOf(x, "cut 1;way 4;earth 99");
        x.stone(10, 0);
        x.pass(1);
        Sites.bring(x, 0, 0, 1);
        x.send(0, 0);
        x.pass(3);
        C.due("the haul", x.gangs(0, 2), 1);
        x.pass(5);
        C.due("no day of it is done", x.gangs(0, 2), 1);
        x.callOff(0);
        x.raise(0);
        x.pass(5);
        C.due("nothing is raised", x.gangs(0, 2), 99);
        C.due("days of hunger", x.count(11), 10);
    }

    private static void menAreDone() {
        C.sentence(12, "cutting, raising: its MEN are done of the MEN's days that are left;");
        // weight 5, cut 2: ten MEN's days
        int[][] rows = {{1, 10}, {2, 5}, {3, 4}, {5, 2}, {9, 2}, {10, 1}, {11, 1}, {200, 1}};
        for (int[] row : rows) {
            StoneWorks x = Sites.fed(row[0]);
            x.stone(5, 0);
            x.send(0, 0);
            for (int day = 1; day < row[1]; day++) {
                x.pass(1);
                C.due(row[0] + " men, left behind day " + day, x.gangs(0, 2), 10 - day * row[0]);
                C.due(row[0] + " men, day " + day, x.about(0, 0), 0);
            }
            x.pass(1);
            C.due(row[0] + " men, cut on day " + row[1], x.about(0, 0), 1);
            C.due("nothing is left, and never less", x.gangs(0, 2), 0);
            StoneWorks y = Sites.fed(row[0]);
            y.raise(0);
            for (int day = 1; day < row[1]; day++) {
                y.pass(1);
                C.due(row[0] + " men raise, left behind day " + day, y.gangs(0, 2), 10 - day * row[0]);
            }
            C.due(row[0] + " men, not yet raised", y.count(4), 0);
            y.pass(1);
            C.due(row[0] + " men, raised on day " + row[1], y.count(4), 1);
            C.due("nothing is left of raising", y.gangs(0, 2), 0);
        }
    }

    /** A HAUL of ten MEN, PULL 10, that has begun: 8 of its 9 DAYS are left. */
    private static StoneWorks hauling() {
        StoneWorks x = Sites.works("cut 2;way 9", 10);
        x.stone(20, 0);
        Sites.bring(x, 0, 0, 1);
        x.send(0, 0);
        x.pass(1);
        return x;
    }

    private static void dueStill(String name, StoneWorks x, int left, int still) {
        C.due(name + ": left", x.gangs(0, 2), left);
        C.due(name + ": days still", x.gangs(0, 4), still);
    }

    private static void stillByTheRope() {
        C.sentence(12, "a HAUL on a DAY on which the PULL (as dry or wet as that is) is above the rope or its MEN: it stands still;");
        StoneWorks x = hauling();
        dueStill("begun", x, 8, 0);
        Checks.tableOf(x, "rope 10");
        x.pass(1);
        dueStill("as much as the rope bears", x, 7, 0);
        Checks.tableOf(x, "rope 9");
        x.pass(2);
        dueStill("more than it bears", x, 7, 2);
        C.due("the work goes on", x.gangs(0, 1), 0);
        Checks.tableOf(x, "");
        x.pass(7);
        C.due("done then", x.about(0, 0), 2);
        C.due("days still stay told", x.gangs(0, 4), 2);
    }

    private static void stillByTheMen() {
        C.sentence(12, "is above the rope or its MEN: it stands still;");
        StoneWorks x = hauling();
        Checks.tableOf(x, "flat 5 1");
        x.pass(1);
        dueStill("ten of ten", x, 7, 0);
        Checks.tableOf(x, "flat 6 1");
        x.pass(1);
        dueStill("twelve of ten", x, 7, 1);
    }

    private static void stillByWet() {
        C.sentence(12, "the PULL (as dry or wet as that is)");
        StoneWorks x = hauling();
        Checks.tableOf(x, "flat 5 6");
        int now = x.count(0);
        x.spell(1, now + 1, now + 2);
        int[] left = {7, 7, 7, 6};
        int[] still = {0, 1, 2, 2};
        for (int day = 0; day < 4; day++) {
            x.pass(1);
            dueStill("day " + day, x, left[day], still[day]);
        }
    }

    private static void rampHaulStandsStill() {
        C.sentence(12, "a HAUL on a DAY on which the PULL (as dry or wet as that is) is above the rope or its MEN: it stands still;");
        StoneWorks x = Sites.withRamp(QUICK, 3, 10);
        x.stone(20, 2);
        Sites.bring(x, 0, 0, 3);
        x.send(0, 0);
        Checks.tableOf(x, "ramp 6 6");
        x.pass(1);
        dueStill("by the men", x, 3, 1);
        Checks.tableOf(x, "ramp 5 5;flat 99 99");
        x.pass(1);
        dueStill("the ramp's number alone counts", x, 2, 1);
        Checks.tableOf(x, "rope 9");
        x.pass(1);
        dueStill("by the rope", x, 2, 2);
    }

    private static void layingStandsStill() {
        C.sentence(12, "a HAUL on a DAY on which the PULL (as dry or wet as that is) is above the rope or its MEN: it stands still;");
        StoneWorks x = Sites.withRamp(QUICK, 1, 10);
        x.stone(20, 0);
        Sites.bring(x, 0, 0, 4);
        x.send(0, 0);
        Checks.tableOf(x, "flat 6 6");
        x.pass(1);
        dueStill("by the men", x, 1, 1);
        C.due("not laid", x.about(0, 0), 4);
        Checks.tableOf(x, "flat 5 5;ramp 99 99");
        x.pass(1);
        C.due("laid", x.about(0, 0), 5);
        C.due("days still", x.gangs(0, 4), 1);
    }

    private static void idleIsNotStill() {
        C.sentence(12, "If it is a FEAST, or FOOD is less than all MEN: nobody works");
        StoneWorks x = hauling();
        Checks.tableOf(x, "rope 1");
        x.spell(2, x.count(0), x.count(0));
        x.pass(1);
        dueStill("a feast", x, 8, 0);
        StoneWorks y = new StoneWorks();
        y.boat(0, 10);
        y.gang(10);
        Checks.tableOf(y, "cut 1");
        y.stone(10, 0);
        Sites.bring(y, 0, 0, 1);
        y.send(0, 0);
        Checks.tableOf(y, "rope 1");
        y.pass(1);
        dueStill("hunger", y, 3, 0);
    }

    /** A STONE at the quay on DAY 2, a GANG of ten MEN, rafts of three DAYS. */
    private static StoneWorks atTheQuay(int food) {
        StoneWorks x = new StoneWorks();
        x.boat(0, food);
        x.gang(10);
        Checks.tableOf(x, "cut 1;way 1;raft 3");
        x.stone(5, 0);
        Sites.bring(x, 0, 0, 2);
        return x;
    }

    private static void dueLost(String name, StoneWorks x) {
        C.due(name + ": lost", x.about(0, 0), 6);
        C.due(name + ": how many", x.count(6), 1);
        C.due(name + ": nobody works on it", x.about(0, 1), -1);
        C.due(name + ": the work ends", x.gangs(0, 1), -1);
        C.due(name + ": nothing is left", x.gangs(0, 2), 0);
        C.due(name + ": no haul stood still", x.gangs(0, 4), 0);
    }

    private static void raftOnTheLastHighDay() {
        C.sentence(12, "raft DAYS, each of which must be HIGH.");
        StoneWorks x = atTheQuay(1000);
        x.spell(0, 2, 4);
        x.send(0, 0);
        x.pass(3);
        C.due("three of three", x.about(0, 0), 3);
        C.due("lost", x.count(6), 0);
        StoneWorks y = atTheQuay(1000);
        y.spell(0, 2, 2);
        y.spell(0, 3, 4);
        y.send(0, 0);
        y.pass(3);
        C.due("by two spells side by side", y.about(0, 0), 3);
    }

    private static void raftOnADayThatIsNotHigh() {
        C.sentence(12, "a raft on a DAY that is not HIGH,");
        StoneWorks x = atTheQuay(1000);
        x.spell(0, 2, 3);
        x.send(0, 0);
        x.pass(2);
        C.due("two of three", x.gangs(0, 2), 1);
        C.due("still on the river", x.about(0, 0), 2);
        x.pass(1);
        dueLost("the third", x);
    }

    private static void raftOnAFeast() {
        C.sentence(12, "and on a FEAST or a DAY of hunger, be it HIGH: the STONE is LOST, the WORK ends.");
        for (int day = 2; day <= 4; day++) {
            StoneWorks x = atTheQuay(1000);
            x.spell(0, 0, 3000);
            x.spell(2, day, day);
            x.send(0, 0);
            x.pass(day - 1);
            dueLost("a feast on day " + day, x);
        }
    }

    private static void raftInHunger() {
        C.sentence(12, "and on a FEAST or a DAY of hunger, be it HIGH: the STONE is LOST, the WORK ends.");
        for (int fedDays = 2; fedDays <= 5; fedDays++) {
            StoneWorks x = atTheQuay(10 * fedDays + 9);
            x.spell(0, 0, 3000);
            x.send(0, 0);
            x.pass(3);
            if (fedDays < 5) {
                dueLost("food for " + fedDays + " days", x);
            } else {
                C.due("food for all five", x.about(0, 0), 3);
            }
        }
    }

    private static void othersOutliveAFeast() {
        C.sentence(12, "a raft on a DAY that is not HIGH, and on a FEAST or a DAY of hunger, be it HIGH: the STONE is LOST");
        StoneWorks x = Sites.works(QUICK, 20, 20, 20);
        for (int i = 0; i < 3; i++) {
            x.stone(5, 0);
        }
        Sites.bring(x, 0, 1, 1);
        Sites.bring(x, 0, 2, 2);
        for (int g = 0; g < 3; g++) {
            C.due("send", x.send(g, g), 0);
        }
        x.spell(2, x.count(0), x.count(0));
        x.pass(1);
        C.due("the one that is cut", x.about(0, 0), 0);
        C.due("is worked on", x.about(0, 1), 0);
        C.due("the one that is hauled", x.about(1, 0), 1);
        C.due("is worked on", x.about(1, 1), 1);
        C.due("the one on the river", x.about(2, 0), 6);
    }

    private static void tableAsSent() {
        C.sentence(12, "(What the TABLE says as a GANG is SENT holds for that WORK, but for rope and PULL.)");
        StoneWorks x = Sites.works("cut 4;way 5;raft 6;earth 7", 10);
        x.stone(5, 0);
        int[] left = {20, 5, 6};
        int[] days = {2, 5, 6};
        for (int state = 0; state < 3; state++) {
            x.send(0, 0);
            Checks.tableOf(x, "cut 1;way 1;raft 1;earth 1");
            C.due("left, state " + state, x.gangs(0, 2), left[state]);
            x.pass(days[state] - 1);
            C.due("a day too few, state " + state, x.about(0, 0), state);
            x.pass(1);
            C.due("done, state " + state, x.about(0, 0), state + 1);
            Checks.tableOf(x, "cut 4;way 5;raft 6;earth 7");
        }
        x.raise(0);
        Checks.tableOf(x, "earth 99");
        C.due("left of raising", x.gangs(0, 2), 7);
        x.pass(1);
        C.due("raised", x.count(4), 1);
    }

    private static void ropeAndPullOfTheDay() {
        C.sentence(12, "(What the TABLE says as a GANG is SENT holds for that WORK, but for rope and PULL.)");
        StoneWorks x = hauling();
        Checks.tableOf(x, "rope 9;way 1");
        x.pass(1);
        dueStill("the new rope", x, 8, 1);
        Checks.tableOf(x, "flat 6 6;way 1");
        x.pass(1);
        dueStill("the new pull", x, 8, 2);
        Checks.tableOf(x, "flat 1 1;rope 2;way 1");
        x.pass(1);
        dueStill("a lighter one", x, 7, 2);
    }

    private static void rampNeverHigherThanTen() {
        C.sentence(12, "The RAMP is HIGH by so many COURSES (0 at first, 10 at most).");
        StoneWorks x = Sites.works("earth 1", 200, 200);
        for (int i = 0; i < 12; i++) {
            x.raise(0);
            x.raise(1);
            x.pass(1);
            C.due("behind day " + i, x.count(4), Math.min(10, i + 1));
        }
    }

    private static void doneToTheEnd() {
        C.sentence(12, "What is done to the end: the STONE is what it is next (the RAMP HIGH by one more), the GANG has no WORK;");
        StoneWorks x = Sites.withRamp(QUICK, 1, 10);
        C.due("no work behind raising", x.gangs(0, 1), -1);
        x.stone(5, 0);
        for (int state = 0; state < 5; state++) {
            x.send(0, 0);
            C.due("worked on, state " + state, x.about(0, 1), 0);
            x.pass(1);
            C.due("next", x.about(0, 0), state + 1);
            C.due("nobody works on it", x.about(0, 1), -1);
            C.due("no work", x.gangs(0, 1), -1);
            x.pass(3);
            C.due("nothing goes on by itself", x.about(0, 0), state + 1);
        }
    }

    private static void markAndDay() {
        C.sentence(12, "a STONE that is laid has the GANG's number as its MARK, and the DAY.");
        StoneWorks x = Sites.withRamp(QUICK, 1, 10, 10, 10, 10, 10, 10);
        x.stone(5, 0);
        x.stone(5, 0);
        Sites.bring(x, 0, 0, 4);
        Sites.bring(x, 0, 1, 4);
        C.due("no mark while it is up", x.about(0, 2), -1);
        C.due("no day while it is up", x.about(0, 3), -1);
        int now = x.count(0);
        x.send(5, 0);
        x.pass(1);
        C.due("the last gang's mark", x.about(0, 2), 5);
        C.due("the day, not that behind it", x.about(0, 3), now);
        C.due("laid by it", x.gangs(5, 3), 1);
        C.due("none by the one that brought it", x.gangs(0, 3), 0);
        Sites.passTo(x, 3000);
        x.send(0, 1);
        x.pass(1);
        C.due("the first gang's mark", x.about(1, 2), 0);
        C.due("the last day", x.about(1, 3), 3000);
    }
}
