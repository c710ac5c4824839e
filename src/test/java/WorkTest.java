/** Promises 9 to 14: GANGS SENT to STONES and to the RAMP, DAYS, WORKS CALLED OFF, what is told of both. */
public final class WorkTest {
    private static final Checks C = new Checks();
    private static final int MIN = Sites.MIN;
    private static final int MAX = Sites.MAX;

    public static void main(String[] args) {
        noSuchOnes();
        leastThatHolds();
        ropesAndMen();
        rafts();
        ramp();
        lesserCourses();
        callingOff();
        cuttingByMen();
        tableAsSent();
        standingStill();
        wetRamp();
        ropeThatJustBears();
        feasts();
        hunger();
        gangsByNumbers();
        days();
        theEnd();
        C.finish();
    }

    private static void noSuchOnes() {
        StoneWorks x = Sites.works("", 10);
        x.stone(5, 0);
        for (int n : new int[] {-1, 1, 6, MIN, MAX}) {
            C.due("send(" + n + ", 0)", x.send(n, 0), 1);
            C.due("send(0, " + n + ")", x.send(0, n), 1);
            C.due("raise(" + n + ")", x.raise(n), 1);
            C.due("callOff(" + n + ")", x.callOff(n), false);
            C.due("about(" + n + ", 0)", x.about(n, 0), -1);
            C.due("gangs(" + n + ", 0)", x.gangs(n, 0), -1);
        }
        for (int what : new int[] {-1, 5, MIN, MAX}) {
            C.due("about(0, " + what + ")", x.about(0, what), -1);
            C.due("gangs(0, " + what + ")", x.gangs(0, what), -1);
        }
        C.due("send to the ramp's number", x.send(0, 30), 1);
    }

    private static void leastThatHolds() {
        StoneWorks x = Sites.works("", 10, 10);
        x.stone(50, 0);
        x.stone(50, 0);
        C.due("send", x.send(0, 0), 0);
        C.due("1 ahead of 2", x.send(0, 7), 1);
        C.due("2 ahead of 3", x.send(0, 0), 2);
        C.due("3", x.send(1, 0), 3);
        C.due("raise: 2", x.raise(0), 2);
        C.due("raise", x.raise(1), 0);
        C.due("raise: 2 ahead of 3", x.raise(1), 2);
        x.callOff(0);
        C.due("raise: 3", x.raise(0), 3);
        C.due("about who", x.about(0, 1), -1);
        x.send(0, 1);
        C.due("about who", x.about(1, 1), 0);
        C.due("gangs what", x.gangs(0, 1), 1);
        C.due("gangs left", x.gangs(0, 2), 100);
        C.due("gangs ramp", x.gangs(1, 1), 30);
    }

    private static void ropesAndMen() {
        StoneWorks x = Sites.works("cut 1;way 1;raft 1", 24, 25);
        x.stone(49, 0);
        C.due("no pull for cutting", x.about(0, 4), 0);
        Sites.bring(x, 1, 0, 1);
        C.due("pull, upwards", x.about(0, 4), 25);
        C.due("6: too few men", x.send(0, 0), 6);
        Checks.tableOf(x, "rope 24;flat 5 1");
        C.due("5 ahead of 6", x.send(0, 0), 5);
        C.due("5: the rope", x.send(1, 0), 5);
        x.spell(1, x.count(0), x.count(0));
        C.due("pull is told of a dry way", x.about(0, 4), 25);
        C.due("wet is lighter here", x.send(0, 0), 0);
        x.callOff(0);
        Checks.tableOf(x, "flat 1 6;ramp 9 1");
        C.due("wet is heavier here", x.send(1, 0), 6);
        C.due("pull on a dry way", x.about(0, 4), 5);
        x.pass(1);
        Sites.bring(x, 0, 0, 2);
        C.due("no pull for a raft", x.about(0, 4), 0);
        Sites.bring(x, 0, 0, 3);
        C.due("pull on the ramp", x.about(0, 4), 45);
        C.due("6 ahead of 8", x.send(0, 0), 6);
        Checks.tableOf(x, "ramp 4 1;flat 2 1;rope 20;earth 1");
        C.due("20 men of 24, a rope for 20: 8", x.send(0, 0), 8);
        Checks.tableOf(x, "ramp 4 1;flat 2 1;rope 19;earth 1");
        C.due("a rope for 19: 5", x.send(0, 0), 5);
        Checks.tableOf(x, "earth 1");
        x.raise(0);
        x.pass(1);
        Sites.bring(x, 1, 0, 4);
        C.due("pull of laying is flat", x.about(0, 4), 25);
        C.due("6 of laying", x.send(0, 0), 6);
        Sites.bring(x, 1, 0, 5);
        C.due("no pull when laid", x.about(0, 4), 0);
        C.due("4 when laid", x.send(0, 0), 4);
    }

    private static void rafts() {
        StoneWorks x = new StoneWorks();
        x.boat(0, 1000);
        x.gang(10);
        Checks.tableOf(x, "cut 1;way 1;raft 2");
        for (int i = 0; i < 4; i++) {
            x.stone(5, 0);
        }
        for (int i = 0; i < 4; i++) {
            Sites.bring(x, 0, i, 2);
        }
        C.due("now", x.count(0), 8);
        C.due("7", x.send(0, 0), 7);
        x.spell(0, 9, 10);
        C.due("7 still", x.send(0, 0), 7);
        x.pass(1);
        C.due("high", x.send(0, 0), 0);
        C.due("left", x.gangs(0, 2), 2);
        x.pass(1);
        C.due("left", x.gangs(0, 2), 1);
        C.due("still at the quay", x.about(0, 0), 2);
        x.pass(1);
        C.due("at the foot", x.about(0, 0), 3);
        x.spell(0, 11, 11);
        C.due("high for a day", x.send(0, 1), 0);
        x.pass(1);
        x.spell(0, 13, 13);
        x.pass(1);
        C.due("lost", x.about(1, 0), 6);
        C.due("nobody works on it", x.about(1, 1), -1);
        C.due("no work", x.gangs(0, 1), -1);
        C.due("nothing left", x.gangs(0, 2), 0);
        C.due("4 when lost", x.send(0, 1), 4);
        C.due("pull when lost", x.about(1, 4), 0);
        C.due("mark when lost", x.about(1, 2), -1);
        C.due("day when lost", x.about(1, 3), -1);
        C.due("high again", x.send(0, 2), 0);
        x.callOff(0);
        C.due("lost when called off", x.about(2, 0), 6);
        C.due("count lost", x.count(6), 2);
        C.due("count laid", x.count(5), 0);
    }

    private static void ramp() {
        StoneWorks x = Sites.works("earth 3", 4, 200);
        int left = 3;
        for (int high = 0; high < 10; high++) {
            C.due("raise", x.raise(1), 0);
            C.due("earth times the number and one", x.gangs(1, 2), left);
            left += 3;
            x.pass(1);
            C.due("high", x.count(4), high + 1);
        }
        C.due("4", x.raise(0), 4);
        StoneWorks y = Sites.works("earth 3", 2);
        y.raise(0);
        y.pass(1);
        C.due("left", y.gangs(0, 2), 1);
        Checks.tableOf(y, "earth 99");
        C.due("the table as sent", y.gangs(0, 2), 1);
        y.pass(1);
        C.due("high", y.count(4), 1);
        y.raise(0);
        C.due("the new table", y.gangs(0, 2), 198);
        C.due("callOff", y.callOff(0), true);
        C.due("high", y.count(4), 1);
        C.due("no work", y.gangs(0, 1), -1);
        C.due("raise again", y.raise(0), 0);
        C.due("from the beginning", y.gangs(0, 2), 198);
    }

    private static void lesserCourses() {
        StoneWorks x = Sites.works("cut 1;way 1;raft 1;earth 1", 50);
        x.stone(10, 1);
        x.stone(10, 0);
        x.stone(10, 0);
        x.raise(0);
        x.pass(1);
        Sites.bring(x, 0, 0, 3);
        C.due("8: high by 1 for course 1", x.send(0, 0), 8);
        Sites.bring(x, 0, 1, 3);
        C.due("course 0 goes up", x.send(0, 1), 0);
        C.due("in one day", x.gangs(0, 2), 1);
        x.pass(1);
        x.raise(0);
        x.pass(1);
        C.due("course 1 goes up", x.send(0, 0), 0);
        C.due("in two days", x.gangs(0, 2), 2);
        x.pass(2);
        C.due("9", x.send(0, 0), 9);
        Sites.bring(x, 0, 1, 5);
        C.due("9 for the other", x.send(0, 0), 9);
        Sites.bring(x, 0, 2, 2);
        x.send(0, 2);
        x.callOff(0);
        C.due("lost is no hindrance", x.send(0, 0), 0);
        C.due("one day", x.gangs(0, 2), 1);
        x.stone(10, 0);
        int day = x.count(0);
        x.pass(1);
        C.due("a later stone doesn't stop it", x.about(0, 0), 5);
        C.due("mark", x.about(0, 2), 0);
        C.due("day", x.about(0, 3), day);
        C.due("laid by it", x.gangs(0, 3), 2);
        C.due("count laid", x.count(5), 2);
        StoneWorks y = Sites.works("cut 1;way 1;raft 1;earth 1", 50);
        y.stone(10, 0);
        y.stone(10, 1);
        y.raise(0);
        y.pass(1);
        y.raise(0);
        y.pass(1);
        Sites.bring(y, 0, 1, 4);
        C.due("9 for stone 0", y.send(0, 1), 9);
    }

    private static void callingOff() {
        StoneWorks x = Sites.works("", 10);
        x.stone(50, 0);
        C.due("no work", x.callOff(0), false);
        x.send(0, 0);
        x.pass(3);
        C.due("left", x.gangs(0, 2), 70);
        C.due("callOff", x.callOff(0), true);
        C.due("left", x.gangs(0, 2), 0);
        C.due("again", x.callOff(0), false);
        C.due("in its bed", x.about(0, 0), 0);
        C.due("nobody", x.about(0, 1), -1);
        x.send(0, 0);
        C.due("what was done is gone", x.gangs(0, 2), 100);
    }

    private static void cuttingByMen() {
        StoneWorks x = Sites.works("cut 3", 10, 20);
        x.stone(7, 0);
        x.send(0, 0);
        x.pass(2);
        C.due("left", x.gangs(0, 2), 1);
        x.pass(1);
        C.due("cut", x.about(0, 0), 1);
        C.due("left", x.gangs(0, 2), 0);
        x.stone(7, 0);
        x.send(1, 1);
        x.pass(1);
        C.due("left", x.gangs(1, 2), 1);
    }

    private static void tableAsSent() {
        StoneWorks x = Sites.works("way 2;cut 1;raft 3", 50);
        x.stone(10, 0);
        Sites.bring(x, 0, 0, 1);
        x.send(0, 0);
        Checks.tableOf(x, "way 9;raft 1");
        C.due("way as sent", x.gangs(0, 2), 2);
        x.pass(2);
        C.due("at the quay", x.about(0, 0), 2);
        x.send(0, 0);
        C.due("raft by the new one", x.gangs(0, 2), 1);
        Checks.tableOf(x, "raft 20");
        x.pass(1);
        C.due("at the foot", x.about(0, 0), 3);
    }

    private static void standingStill() {
        StoneWorks x = Sites.works("way 3;cut 1;flat 5 9", 10);
        x.stone(12, 0);
        Sites.bring(x, 0, 0, 1);
        C.due("send", x.send(0, 0), 0);
        int now = x.count(0);
        x.spell(1, now, now);
        x.pass(1);
        C.due("wet: it stands still", x.gangs(0, 4), 1);
        C.due("left", x.gangs(0, 2), 3);
        x.pass(1);
        C.due("dry: it goes", x.gangs(0, 4), 1);
        C.due("left", x.gangs(0, 2), 2);
        Checks.tableOf(x, "rope 5");
        x.pass(2);
        C.due("the rope of each day", x.gangs(0, 4), 3);
        C.due("left", x.gangs(0, 2), 2);
        Checks.tableOf(x, "flat 9 9");
        x.pass(1);
        C.due("the pull of each day", x.gangs(0, 4), 4);
        Checks.tableOf(x, "");
        x.spell(2, x.count(0), x.count(0));
        x.pass(1);
        C.due("a feast isn't counted", x.gangs(0, 4), 4);
        C.due("left", x.gangs(0, 2), 2);
        x.pass(2);
        C.due("at the quay", x.about(0, 0), 2);
    }

    private static void wetRamp() {
        StoneWorks x = Sites.works("cut 1;way 1;raft 1;earth 1", 20);
        x.stone(20, 2);
        for (int i = 0; i < 3; i++) {
            x.raise(0);
            x.pass(1);
        }
        Sites.bring(x, 0, 0, 3);
        int now = x.count(0);
        x.spell(1, now, now);
        x.spell(1, now + 2, now + 2);
        Checks.tableOf(x, "ramp 1 11;earth 1");
        C.due("a wet ramp: 22 of 20", x.send(0, 0), 6);
        Checks.tableOf(x, "ramp 1 11;earth 1;rope 21");
        C.due("a wet ramp: 22 for a rope of 21", x.send(0, 0), 5);
        C.due("pull on a dry ramp", x.about(0, 4), 2);
        Checks.tableOf(x, "ramp 1 10;flat 99 99");
        C.due("a wet ramp: 20 of 20", x.send(0, 0), 0);
        x.pass(1);
        C.due("left", x.gangs(0, 2), 2);
        Checks.tableOf(x, "ramp 1 11");
        x.pass(1);
        C.due("a dry day", x.gangs(0, 2), 1);
        x.pass(1);
        C.due("a wet day", x.gangs(0, 2), 1);
        C.due("it stood still", x.gangs(0, 4), 1);
        x.pass(1);
        C.due("up", x.about(0, 0), 4);
    }

    private static void ropeThatJustBears() {
        StoneWorks x = Sites.works("cut 1;way 2", 10);
        x.stone(20, 0);
        Sites.bring(x, 0, 0, 1);
        Checks.tableOf(x, "way 2;flat 5 5;rope 10");
        C.due("10 men, a rope for 10", x.send(0, 0), 0);
        x.pass(1);
        C.due("it goes", x.gangs(0, 2), 1);
        C.due("no day still", x.gangs(0, 4), 0);
        Checks.tableOf(x, "flat 5 5;rope 9");
        x.pass(1);
        C.due("a rope for 9", x.gangs(0, 4), 1);
    }

    private static void feasts() {
        StoneWorks x = new StoneWorks();
        x.boat(0, 35);
        x.gang(10);
        x.stone(99, 0);
        x.send(0, 0);
        x.spell(2, 1, 3);
        x.pass(1);
        C.due("left", x.gangs(0, 2), 188);
        x.pass(1);
        C.due("nobody works", x.gangs(0, 2), 188);
        C.due("but all eat", x.count(3), 15);
        x.pass(1);
        C.due("food", x.count(3), 5);
        C.due("no hunger", x.count(11), 0);
        x.pass(1);
        C.due("a feast without enough: nobody eats", x.count(3), 5);
        C.due("a day of hunger", x.count(11), 1);
        x.pass(1);
        C.due("two of them", x.count(11), 2);
        C.due("left", x.gangs(0, 2), 188);
        StoneWorks y = Sites.works("cut 1;way 1;raft 3", 10);
        y.stone(10, 0);
        Sites.bring(y, 0, 0, 2);
        y.send(0, 0);
        y.spell(2, y.count(0) + 1, y.count(0) + 1);
        y.pass(1);
        C.due("still on the river", y.about(0, 0), 2);
        y.pass(1);
        C.due("a raft is lost on a feast", y.about(0, 0), 6);
        C.due("the gang is free", y.gangs(0, 1), -1);
    }

    private static void hunger() {
        StoneWorks x = new StoneWorks();
        x.gang(10);
        x.spell(0, 0, 3000);
        Checks.tableOf(x, "cut 1;way 1;raft 5");
        x.stone(10, 0);
        x.boat(0, 30);
        Sites.bring(x, 0, 0, 2);
        C.due("food", x.count(3), 10);
        x.send(0, 0);
        x.pass(1);
        C.due("just enough", x.count(3), 0);
        C.due("on the river", x.about(0, 0), 2);
        C.due("no hunger", x.count(11), 0);
        x.boat(3, 9);
        x.pass(1);
        C.due("a raft is lost on a day of hunger", x.about(0, 0), 6);
        C.due("food stays", x.count(3), 9);
        C.due("hunger", x.count(11), 1);
        x.boat(4, 1);
        x.pass(1);
        C.due("the boat lands ahead of the meal", x.count(3), 0);
        C.due("hunger", x.count(11), 1);
    }

    private static void gangsByNumbers() {
        StoneWorks x = Sites.works("cut 1;way 1;raft 1;earth 1", 30, 20);
        x.stone(10, 0);
        x.stone(10, 0);
        x.raise(0);
        x.pass(1);
        for (int step = 0; step < 5; step++) {
            C.due("gang 1 to stone 0", x.send(1, 0), 0);
            C.due("gang 0 to stone 1", x.send(0, 1), 0);
            x.pass(1);
            C.due("both are further", x.about(0, 0), step + 1);
            C.due("both are further", x.about(1, 0), step + 1);
        }
        C.due("mark", x.about(0, 2), 1);
        C.due("mark", x.about(1, 2), 0);
        C.due("day", x.about(0, 3), 5);
        C.due("laid", x.gangs(0, 3), 1);
        C.due("laid", x.gangs(1, 3), 1);
    }

    private static void days() {
        StoneWorks x = new StoneWorks();
        for (int n : new int[] {0, -1, 401, MIN, MAX}) {
            C.due("pass(" + n + ")", x.pass(n), -1);
        }
        C.due("now", x.count(0), 0);
        C.due("pass(1)", x.pass(1), 1);
        for (int i = 1; i <= 7; i++) {
            C.due("pass(400)", x.pass(400), 1 + 400 * i);
        }
        C.due("beyond the end", x.pass(201), -1);
        C.due("now", x.count(0), 2801);
        C.due("pass(199)", x.pass(199), 3000);
        C.due("pass(2)", x.pass(2), -1);
        C.due("pass(1)", x.pass(1), 3001);
        C.due("pass(1)", x.pass(1), -1);
        C.due("now", x.count(0), 3001);
    }

    private static void theEnd() {
        StoneWorks x = Sites.works("", 10, 10);
        x.stone(10, 0);
        Sites.passTo(x, 3000);
        C.due("the last day: raise", x.raise(0), 0);
        C.due("the last day: another raises it", x.raise(1), 3);
        x.callOff(0);
        C.due("the last day: send", x.send(0, 0), 0);
        x.boat(3000, 5);
        C.due("pass", x.pass(1), 3001);
        C.due("send at the end", x.send(1, 0), 1);
        C.due("raise at the end", x.raise(1), 1);
        C.due("raise with a work at the end", x.raise(0), 1);
        C.due("boat at the end", x.boat(3001, 5), -1);
        C.due("callOff at the end", x.callOff(0), true);
        C.due("plan at the end", x.plan(), -1);
    }
}
