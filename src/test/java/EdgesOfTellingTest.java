/** The boundary cases of promises 13, 14 and 21: what is told of STONES, of GANGS, and how many there are. */
public final class EdgesOfTellingTest {
    private static final Checks C = new Checks();
    private static final String QUICK = Sites.QUICK;
    private static final int[] NO_NUMBERS = {-1, -2, 6, 30, 31, Sites.MIN, Sites.MAX};

    public static void main(String[] args) {
        noSuchStone();
        noSuchWhatOfAStone();
        statesOfAStone();
        workerOfAStone();
        markOfAStone();
        pullOfAStone();
        leastAndMostPull();
        dryPull();
        noSuchGang();
        noSuchWhatOfAGang();
        workOfAGang();
        leftOfAWork();
        laidByAGang();
        stillDays();
        noSuchCount();
        countsOfAFullOne();
        countsOfLaidAndLost();
        countOfHunger();
        C.finish();
    }

    // ---- promise 13

    private static void noSuchStone() {
        C.sentence(13, "NONE without it,");
        StoneWorks none = new StoneWorks();
        StoneWorks full = new StoneWorks();
        for (int i = 0; i < 30; i++) {
            full.stone(1, 0);
        }
        StoneWorks two = new StoneWorks();
        two.stone(1, 0);
        two.stone(1, 0);
        for (int what = 0; what <= 4; what++) {
            for (int stone : NO_NUMBERS) {
                C.due("about(" + stone + ", " + what + ") without stones", none.about(stone, what), -1);
                C.due("about(" + stone + ", " + what + ") with two", two.about(stone, what), -1);
            }
            C.due("about(0, " + what + ") without stones", none.about(0, what), -1);
            C.due("about(2, " + what + ") with two", two.about(2, what), -1);
            C.due("about(30, " + what + ") with thirty", full.about(30, what), -1);
            C.due("about(-1, " + what + ") with thirty", full.about(-1, what), -1);
        }
        C.due("about(29, 0) with thirty", full.about(29, 0), 0);
        C.due("about(1, 4) with two", two.about(1, 4), 0);
    }

    private static void noSuchWhatOfAStone() {
        C.sentence(13, "or for another what.");
        StoneWorks x = new StoneWorks();
        x.stone(1, 0);
        for (int what : new int[] {-1, 5, 6, Sites.MIN, Sites.MAX}) {
            C.due("about(0, " + what + ")", x.about(0, what), -1);
        }
    }

    private static void statesOfAStone() {
        C.sentence(13, "Each is 0 in its bed, 1 cut, 2 at the quay, 3 at the foot, 4 up, 5 laid, or 6 lost.");
        StoneWorks x = Sites.withRamp(QUICK, 1, 10);
        x.stone(5, 0);
        x.stone(5, 0);
        for (int state = 0; state <= 5; state++) {
            Sites.bring(x, 0, 0, state);
            C.due("state", x.about(0, 0), state);
        }
        Sites.lose(x, 0, 1);
        C.due("lost", x.about(1, 0), 6);
    }

    private static void workerOfAStone() {
        C.sentence(13, "1: the GANG that works on it (NONE),");
        StoneWorks x = Sites.works(QUICK, 1, 1, 1, 1, 1, 1);
        x.stone(99, 0);
        C.due("nobody", x.about(0, 1), -1);
        for (int g = 0; g < 6; g += 5) {
            x.send(g, 0);
            C.due("gang " + g, x.about(0, 1), g);
            x.callOff(g);
            C.due("nobody again", x.about(0, 1), -1);
        }
        x.raise(0);
        C.due("the ramp is no stone", x.about(0, 1), -1);
    }

    private static void markOfAStone() {
        C.sentence(13, "2: its MARK (NONE), 3: the DAY on which it was laid (NONE),");
        StoneWorks x = Sites.withRamp(QUICK, 1, 10);
        x.stone(5, 0);
        x.stone(5, 0);
        for (int state = 0; state <= 4; state++) {
            Sites.bring(x, 0, 0, state);
            C.due("mark, state " + state, x.about(0, 2), -1);
            C.due("day, state " + state, x.about(0, 3), -1);
        }
        Sites.bring(x, 0, 0, 5);
        C.due("mark", x.about(0, 2), 0);
        C.due("day", x.about(0, 3), x.count(0) - 1);
        Sites.lose(x, 0, 1);
        C.due("mark of a lost one", x.about(1, 2), -1);
        C.due("day of a lost one", x.about(1, 3), -1);
    }

    private static void pullOfAStone() {
        C.sentence(13, "4: the PULL that it wants next, on a dry way (0: no HAUL is next).");
        String table = "cut 1;way 1;raft 1;flat 3 99;ramp 7 99";
        StoneWorks x = Sites.withRamp(table, 1, 200);
        x.stone(50, 0);
        x.stone(50, 0);
        int[] pull = {0, 15, 0, 35, 15, 0};
        for (int state = 0; state <= 5; state++) {
            Sites.bring(x, 0, 0, state);
            C.due("state " + state, x.about(0, 4), pull[state]);
        }
        Sites.lose(x, 0, 1);
        C.due("lost", x.about(1, 4), 0);
    }

    private static void leastAndMostPull() {
        C.sentence(13, "weight times the TABLE's number (flat or ramp; dry, or wet if the DAY is) by ten, upwards: PULL.");
        // weight, number, PULL
        int[][] rows = {{1, 1, 1}, {9, 1, 1}, {10, 1, 1}, {11, 1, 2}, {1, 10, 1}, {1, 11, 2}, {20, 5, 10}, {21, 5, 11}, {99, 1, 10},
            {99, 99, 981}, {90, 99, 891}};
        for (int[] row : rows) {
            StoneWorks x = Sites.works(QUICK, 200);
            x.stone(row[0], 0);
            Sites.bring(x, 0, 0, 1);
            Checks.tableOf(x, "flat " + row[1] + " 50");
            C.due("weight " + row[0] + ", flat " + row[1], x.about(0, 4), row[2]);
            Checks.tableOf(x, QUICK);
            Sites.bring(x, 0, 0, 3);
            Checks.tableOf(x, "ramp " + row[1] + " 50");
            C.due("weight " + row[0] + ", ramp " + row[1], x.about(0, 4), row[2]);
        }
    }

    private static void dryPull() {
        C.sentence(13, "4: the PULL that it wants next, on a dry way");
        StoneWorks x = Sites.works("cut 1;flat 1 9", 200);
        x.stone(20, 0);
        Sites.bring(x, 0, 0, 1);
        x.spell(1, 0, 3000);
        C.due("though the day is wet", x.about(0, 4), 2);
        x.send(0, 0);
        C.due("while it is hauled", x.about(0, 4), 2);
    }

    // ---- promise 14

    private static void noSuchGang() {
        C.sentence(14, "NONE without it,");
        StoneWorks none = new StoneWorks();
        StoneWorks full = Sites.fed(1, 2, 3, 4, 5, 6);
        StoneWorks two = Sites.fed(7, 8);
        for (int what = 0; what <= 4; what++) {
            for (int gang : NO_NUMBERS) {
                C.due("gangs(" + gang + ", " + what + ") without gangs", none.gangs(gang, what), -1);
                C.due("gangs(" + gang + ", " + what + ") with six", full.gangs(gang, what), -1);
            }
            C.due("gangs(0, " + what + ") without gangs", none.gangs(0, what), -1);
            C.due("gangs(2, " + what + ") with two", two.gangs(2, what), -1);
        }
        C.due("gangs(5, 0) with six", full.gangs(5, 0), 6);
        C.due("gangs(1, 0) with two", two.gangs(1, 0), 8);
    }

    private static void noSuchWhatOfAGang() {
        C.sentence(14, "or for another what.");
        StoneWorks x = Sites.fed(5);
        for (int what : new int[] {-1, 5, 6, Sites.MIN, Sites.MAX}) {
            C.due("gangs(0, " + what + ")", x.gangs(0, what), -1);
        }
    }

    private static void workOfAGang() {
        C.sentence(14, "1: the STONE it works on (30: the RAMP; NONE),");
        StoneWorks x = Sites.works(QUICK, 1);
        for (int i = 0; i < 30; i++) {
            x.stone(99, 0);
        }
        C.due("none", x.gangs(0, 1), -1);
        for (int stone = 0; stone < 30; stone += 29) {
            x.send(0, stone);
            C.due("stone " + stone, x.gangs(0, 1), stone);
            x.callOff(0);
            C.due("none again", x.gangs(0, 1), -1);
        }
        x.raise(0);
        C.due("the ramp", x.gangs(0, 1), 30);
        x.callOff(0);
        C.due("none again", x.gangs(0, 1), -1);
    }

    private static void leftOfAWork() {
        C.sentence(14, "2: what is left of its WORK (MEN's days, or DAYS; 0),");
        StoneWorks x = Sites.works("cut 99;earth 99", 200);
        x.stone(99, 0);
        C.due("no work", x.gangs(0, 2), 0);
        x.send(0, 0);
        C.due("as much as there may be", x.gangs(0, 2), 9801);
        x.pass(49);
        C.due("the last of it", x.gangs(0, 2), 1);
        x.pass(1);
        C.due("no work again", x.gangs(0, 2), 0);
        x.raise(0);
        x.callOff(0);
        C.due("called off", x.gangs(0, 2), 0);
    }

    private static void laidByAGang() {
        C.sentence(14, "3: STONES it has laid,");
        StoneWorks x = Sites.withRamp(QUICK, 1, 20, 20);
        for (int i = 0; i < 3; i++) {
            x.stone(5, 0);
            Sites.bring(x, 0, i, 4);
            C.due("laid by 0", x.gangs(0, 3), Math.min(i, 1));
            Sites.bring(x, i == 0 ? 0 : 1, i, 5);
            C.due("laid by 1", x.gangs(1, 3), i);
        }
    }

    private static void stillDays() {
        C.sentence(14, "4: DAYS on which a HAUL of it stood still.");
        StoneWorks x = Sites.works(QUICK, 10, 10);
        x.stone(20, 0);
        Sites.bring(x, 0, 0, 1);
        C.due("none at first", x.gangs(0, 4), 0);
        x.send(0, 0);
        Checks.tableOf(x, "rope 1");
        x.pass(3);
        C.due("three", x.gangs(0, 4), 3);
        C.due("none of the other one", x.gangs(1, 4), 0);
        x.callOff(0);
        x.pass(3);
        C.due("no work, no day still", x.gangs(0, 4), 3);
        x.raise(0);
        x.pass(1);
        C.due("raising is no haul", x.gangs(0, 4), 3);
    }

    // ---- promise 21

    private static void noSuchCount() {
        C.sentence(21, "NONE for others.");
        StoneWorks x = new StoneWorks();
        for (int what = 12; what <= 19; what++) {
            C.due("count(" + what + ")", x.count(what), -1);
        }
        for (int what : new int[] {-1, -20, 29, 30, 40, Sites.MIN, Sites.MIN + 19, Sites.MIN + 20, Sites.MIN + 28, Sites.MAX}) {
            C.due("count(" + what + ")", x.count(what), -1);
        }
        C.due("count(20)", x.count(20), 5);
        C.due("count(28)", x.count(28), 10);
        C.due("count(11)", x.count(11), 0);
        C.due("count(0)", x.count(0), 0);
    }

    private static void countsOfAFullOne() {
        C.sentence(21, "What 0: NOW, 1: GANGS, 2: STONES, 3: FOOD, 4: HIGH of the RAMP,");
        StoneWorks x = Sites.withRamp(QUICK, 10, 200, 1, 1, 1, 1, 1);
        for (int i = 0; i < 40; i++) {
            x.stone(1, 0);
            x.tally(0, 0, 0, 0);
            x.spell(1, 5, 5);
            x.boat(20, 1000000);
        }
        for (int i = 0; i < 11; i++) {
            x.feed(0, 0, 0, 0, 0);
        }
        int[] due = {10, 6, 30, 10000000 - 10 * 205, 10, 0, 0, 40, 40, 200, 20, 0};
        for (int what = 0; what < due.length; what++) {
            C.due("count(" + what + ")", x.count(what), due[what]);
        }
        Sites.passTo(x, 3001);
        C.due("the end", x.count(0), 3001);
    }

    private static void countsOfLaidAndLost() {
        C.sentence(21, "5: STONES laid, 6: lost,");
        StoneWorks x = Sites.withRamp(QUICK, 1, 20);
        for (int i = 0; i < 5; i++) {
            x.stone(5, 0);
        }
        for (int state = 0; state <= 5; state++) {
            Sites.bring(x, 0, 0, state);
            C.due("laid, state " + state, x.count(5), state == 5 ? 1 : 0);
            C.due("lost, state " + state, x.count(6), 0);
        }
        for (int i = 1; i <= 3; i++) {
            Sites.lose(x, 0, i);
            C.due("lost", x.count(6), i);
            C.due("laid", x.count(5), 1);
        }
    }

    private static void countOfHunger() {
        C.sentence(21, "11: DAYS of hunger (on which FOOD was less than all MEN);");
        StoneWorks x = new StoneWorks();
        x.gang(10);
        x.boat(1, 10);
        x.boat(3, 9);
        x.boat(4, 1);
        x.spell(2, 1, 2);
        // day 1: a feast with just enough; day 2: a feast with nothing; day 3: one too few; day 4: just enough
        int[] due = {1, 1, 2, 3, 3, 4};
        for (int day = 0; day < due.length; day++) {
            x.pass(1);
            C.due("behind day " + day, x.count(11), due[day]);
        }
    }
}
