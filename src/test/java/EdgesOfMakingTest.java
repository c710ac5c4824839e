/** The boundary cases of promises 1 to 4 and 8: a new object, GANGS, BOATS, SPELLS, STONES. */
public final class EdgesOfMakingTest {
    private static final Checks C = new Checks();
    private static final int MIN = Sites.MIN;
    private static final int MAX = Sites.MAX;

    public static void main(String[] args) {
        aNewObject();
        foodAtFirst();
        rampAtFirst();
        objectsApart();
        gangNumbers();
        gangsAreFull();
        menNotAsTold();
        boatsAreFull();
        boatFoodNotAsTold();
        boatAheadOfNow();
        boatDays();
        boatAtTheEnd();
        spellsAreFull();
        spellKinds();
        spellDays();
        spellOrder();
        highDays();
        wetDays();
        feastDays();
        stonesAreFull();
        stoneWeights();
        stoneCourses();
        C.finish();
    }

    // ---- promise 1

    private static void aNewObject() {
        C.sentence(1, "DAY 0; no GANGS, no STONES.");
        StoneWorks x = new StoneWorks();
        C.due("count(0)", x.count(0), 0);
        C.due("count(1)", x.count(1), 0);
        C.due("count(2)", x.count(2), 0);
        C.due("gangs(0, 0)", x.gangs(0, 0), -1);
        C.due("about(0, 0)", x.about(0, 0), -1);
        for (int what = 5; what <= 11; what++) {
            C.due("count(" + what + ")", x.count(what), 0);
        }
        C.due("isTrue(0)", x.isTrue(0), -1);
        C.due("planned(0, 0)", x.planned(0, 0), -1);
        C.due("the first gang", x.gang(1), 0);
        C.due("the first stone", x.stone(1, 0), 0);
        C.due("the first tally", x.tally(0, 0, 0, 0), 0);
    }

    private static void foodAtFirst() {
        C.sentence(1, "FOOD (0 at first;");
        StoneWorks x = new StoneWorks();
        C.due("count(3)", x.count(3), 0);
        x.gang(1);
        x.pass(1);
        C.due("one man is hungry on day 0", x.count(11), 1);
    }

    private static void rampAtFirst() {
        C.sentence(1, "The RAMP is HIGH by so many COURSES (0 at first,");
        StoneWorks x = Sites.works(Sites.QUICK, 10);
        C.due("count(4)", x.count(4), 0);
        x.stone(5, 0);
        Sites.bring(x, 0, 0, 3);
        C.due("too low for course 0", x.send(0, 0), 8);
    }

    private static void objectsApart() {
        C.sentence(1, "DAY 0; no GANGS, no STONES.");
        StoneWorks other = Sites.withRamp(Sites.QUICK, 1, 50);
        other.stone(10, 0);
        other.tally(0, 0, 9, 3);
        other.feed(1, 2, 3, 4, 5);
        StoneWorks x = new StoneWorks();
        for (int what = 0; what <= 11; what++) {
            C.due("beside another object, count(" + what + ")", x.count(what), 0);
        }
        C.due("beside another object, cut", x.count(24), 2);
    }

    // ---- promise 2

    private static void gangNumbers() {
        C.sentence(2, "GANGS 0 to 5, each of MEN (1 to 200).");
        StoneWorks x = new StoneWorks();
        int[] men = {1, 200, 2, 199, 100, 1};
        for (int g = 0; g < 6; g++) {
            C.due("gang(" + men[g] + ")", x.gang(men[g]), g);
            C.due("its men", x.gangs(g, 0), men[g]);
            C.due("how many", x.count(1), g + 1);
        }
    }

    private static void gangsAreFull() {
        C.sentence(2, "NONE: there are 6,");
        StoneWorks x = new StoneWorks();
        x.boat(0, 100);
        for (int g = 0; g < 6; g++) {
            x.gang(1);
        }
        C.due("gang(1)", x.gang(1), -1);
        C.due("gang(200)", x.gang(200), -1);
        C.due("gang(0)", x.gang(0), -1);
        C.due("how many", x.count(1), 6);
        C.due("gangs(6, 0)", x.gangs(6, 0), -1);
        x.pass(1);
        C.due("those who were refused don't eat", x.count(3), 94);
    }

    private static void menNotAsTold() {
        C.sentence(2, "or MEN not as told.");
        StoneWorks x = new StoneWorks();
        x.boat(0, 100);
        for (int men : new int[] {0, -1, -200, 201, 256, MIN, MIN + 1, MAX}) {
            C.due("gang(" + men + ")", x.gang(men), -1);
            C.due("how many", x.count(1), 0);
        }
        C.due("the next number is still 0", x.gang(7), 0);
        x.pass(1);
        C.due("those who were refused don't eat", x.count(3), 93);
    }

    // ---- promise 3

    private static void boatsAreFull() {
        C.sentence(3, "NONE: 40,");
        StoneWorks x = new StoneWorks();
        for (int n = 1; n <= 39; n++) {
            C.due("boat(0, 1)", x.boat(0, 1), n);
        }
        x.pass(1);
        C.due("the fortieth", x.boat(5, 1), 40);
        C.due("one more, though 39 have landed", x.boat(5, 1000), -1);
        C.due("how many", x.count(7), 40);
        x.pass(5);
        C.due("the refused one never lands", x.count(3), 40);
        C.due("one more, though all have landed", x.boat(6, 1), -1);
    }

    private static void boatFoodNotAsTold() {
        C.sentence(3, "so much FOOD (1 to 1000000)");
        StoneWorks x = new StoneWorks();
        for (int food : new int[] {0, -1, 1000001, -1000000, MIN, MAX}) {
            C.due("boat(0, " + food + ")", x.boat(0, food), -1);
            C.due("how many", x.count(7), 0);
        }
        C.due("boat(0, 1)", x.boat(0, 1), 1);
        C.due("boat(1, 1000000)", x.boat(1, 1000000), 2);
        x.pass(1);
        C.due("food of day 0", x.count(3), 1);
        x.pass(1);
        C.due("food of day 1", x.count(3), 1000001);
    }

    private static void boatAheadOfNow() {
        C.sentence(3, "on a DAY not ahead of NOW.");
        StoneWorks x = new StoneWorks();
        C.due("NOW, at first", x.boat(0, 3), 1);
        x.pass(10);
        C.due("the day ahead of NOW", x.boat(9, 5), -1);
        C.due("day 0", x.boat(0, 5), -1);
        C.due("how many", x.count(7), 1);
        C.due("NOW", x.boat(10, 7), 2);
        C.due("not yet landed", x.count(3), 3);
        x.pass(1);
        C.due("landed", x.count(3), 10);
    }

    private static void boatDays() {
        C.sentence(3, "DAYS 0 to 3000;");
        StoneWorks x = new StoneWorks();
        for (int day : new int[] {-1, 3001, 3002, MIN, MAX}) {
            C.due("boat(" + day + ", 5)", x.boat(day, 5), -1);
        }
        C.due("how many", x.count(7), 0);
        C.due("boat(3000, 5)", x.boat(3000, 5), 1);
        Sites.passTo(x, 3000);
        C.due("ahead of it", x.count(3), 0);
        x.pass(1);
        C.due("landed on the last day", x.count(3), 5);
    }

    private static void boatAtTheEnd() {
        C.sentence(3, "3001 at the end: then nothing is done any more");
        StoneWorks x = new StoneWorks();
        Sites.passTo(x, 3000);
        C.due("on the last day", x.boat(3000, 5), 1);
        Sites.passTo(x, 3001);
        C.due("boat(3000, 5)", x.boat(3000, 5), -1);
        C.due("boat(3001, 5)", x.boat(3001, 5), -1);
        C.due("how many", x.count(7), 1);
    }

    // ---- promise 4

    private static void spellsAreFull() {
        C.sentence(4, "SPELLS, 40 at most of all,");
        StoneWorks x = Sites.fed(10);
        for (int n = 1; n <= 40; n++) {
            C.due("spell " + n, x.spell(n % 3, 100 + n, 100 + n), n);
        }
        for (int kind = 0; kind < 3; kind++) {
            C.due("one more of kind " + kind, x.spell(kind, 0, 99), -1);
        }
        C.due("how many", x.count(8), 40);
        Checks.tableOf(x, "flat 5 99;cut 1;way 1");
        x.stone(10, 0);
        x.send(0, 0);
        x.pass(1);
        C.due("the refused feast isn't", x.about(0, 0), 1);
        C.due("the refused wet isn't", x.send(0, 0), 0);
        x.pass(1);
        C.due("the refused high isn't", x.send(0, 0), 7);
    }

    private static void spellKinds() {
        C.sentence(4, "(kinds 0 to 2)");
        StoneWorks x = new StoneWorks();
        for (int kind : new int[] {-1, 3, 4, MIN, MAX}) {
            C.due("spell(" + kind + ", 0, 1)", x.spell(kind, 0, 1), -1);
            C.due("how many", x.count(8), 0);
        }
        for (int kind = 0; kind <= 2; kind++) {
            C.due("spell(" + kind + ", 0, 1)", x.spell(kind, 0, 1), kind + 1);
        }
    }

    private static void spellDays() {
        C.sentence(4, "DAYS 0 to 3000;");
        StoneWorks x = Sites.fed(10);
        int[][] wrong = {{-1, 5}, {-1, -1}, {0, 3001}, {3001, 3001}, {3000, 3001}, {MIN, 5}, {0, MAX}, {MIN, MAX}, {MAX, MAX}};
        for (int[] w : wrong) {
            C.due("spell(2, " + w[0] + ", " + w[1] + ")", x.spell(2, w[0], w[1]), -1);
        }
        C.due("how many", x.count(8), 0);
        x.stone(5, 0);
        x.send(0, 0);
        x.pass(1);
        C.due("none of them was a feast", x.about(0, 0), 1);
        C.due("spell(0, 0, 0)", x.spell(0, 0, 0), 1);
        C.due("spell(1, 3000, 3000)", x.spell(1, 3000, 3000), 2);
        C.due("spell(2, 0, 3000)", x.spell(2, 0, 3000), 3);
        Sites.passTo(x, 3001);
        C.due("a spell at the end", x.spell(0, 0, 3000), 4);
    }

    private static void spellOrder() {
        C.sentence(4, "from a DAY to a DAY:");
        StoneWorks x = new StoneWorks();
        C.due("to the same day", x.spell(0, 7, 7), 1);
        C.due("to the day behind", x.spell(1, 7, 8), 2);
        C.due("to the day ahead", x.spell(2, 7, 6), -1);
        C.due("from the last to the first", x.spell(0, 3000, 0), -1);
        C.due("how many", x.count(8), 2);
    }

    private static void highDays() {
        C.sentence(4, "HIGH (kind 0: the river may be rafted)");
        for (int day = 2; day <= 7; day++) {
            StoneWorks x = Sites.fed(10);
            Checks.tableOf(x, Sites.QUICK);
            x.stone(5, 0);
            Sites.bring(x, 0, 0, 2);
            x.spell(0, 4, 5);
            Sites.passTo(x, day);
            boolean high = day == 4 || day == 5;
            C.due("send on day " + day, x.send(0, 0), high ? 0 : 7);
            x.pass(1);
            C.due("rafted on day " + day, x.about(0, 0), high ? 3 : 2);
        }
    }

    private static void wetDays() {
        C.sentence(4, "WET (1: ways are wet)");
        StoneWorks x = Sites.fed(10);
        Checks.tableOf(x, "cut 1;flat 1 99;way 20");
        x.stone(10, 0);
        Sites.bring(x, 0, 0, 1);
        x.spell(1, 3, 5);
        for (int day = 1; day <= 7; day++) {
            Sites.passTo(x, day);
            C.due("day " + day, x.send(0, 0), day >= 3 && day <= 5 ? 6 : 0);
            x.callOff(0);
        }
    }

    private static void feastDays() {
        C.sentence(4, "FEAST (2: nobody works)");
        StoneWorks x = Sites.fed(1);
        x.stone(50, 0);
        x.send(0, 0);
        x.spell(2, 3, 5);
        int[] left = {100, 99, 98, 97, 97, 97, 97, 96, 95};
        for (int day = 0; day < left.length; day++) {
            C.due("left on day " + day, x.gangs(0, 2), left[day]);
            x.pass(1);
        }
    }

    // ---- promise 8

    private static void stonesAreFull() {
        C.sentence(8, "NONE: there are 30,");
        StoneWorks x = new StoneWorks();
        for (int n = 0; n < 30; n++) {
            C.due("stone " + n, x.stone(1, 0), n);
        }
        C.due("one more", x.stone(1, 0), -1);
        C.due("one more, and not as told", x.stone(0, 0), -1);
        C.due("how many", x.count(2), 30);
        C.due("about(29, 0)", x.about(29, 0), 0);
        C.due("about(30, 0)", x.about(30, 0), -1);
        StoneWorks y = Sites.withRamp(Sites.QUICK, 1, 50);
        y.stone(1, 0);
        Sites.bring(y, 0, 0, 5);
        for (int n = 1; n < 30; n++) {
            y.stone(1, 0);
        }
        C.due("one more, though one is laid", y.stone(1, 0), -1);
    }

    private static void stoneWeights() {
        C.sentence(8, "weight (1 to 99)");
        StoneWorks x = Sites.fed(1, 1);
        for (int weight : new int[] {0, -1, 100, 256, MIN, MAX}) {
            C.due("stone(" + weight + ", 0)", x.stone(weight, 0), -1);
            C.due("how many", x.count(2), 0);
        }
        C.due("stone(1, 0)", x.stone(1, 0), 0);
        C.due("stone(99, 0)", x.stone(99, 0), 1);
        x.send(0, 0);
        x.send(1, 1);
        C.due("cutting the lightest", x.gangs(0, 2), 2);
        C.due("cutting the heaviest", x.gangs(1, 2), 198);
    }

    private static void stoneCourses() {
        C.sentence(8, "COURSE (0 to 9).");
        StoneWorks x = Sites.withRamp(Sites.QUICK, 10, 200);
        for (int course : new int[] {-1, 10, 11, MIN, MAX}) {
            C.due("stone(5, " + course + ")", x.stone(5, course), -1);
            C.due("how many", x.count(2), 0);
        }
        for (int course = 0; course <= 9; course += 9) {
            C.due("stone(5, " + course + ")", x.stone(5, course), course / 9);
            Sites.bring(x, 0, course / 9, 3);
            x.send(0, course / 9);
            C.due("days up to it", x.gangs(0, 2), course + 1);
            x.pass(course + 1);
        }
    }
}
