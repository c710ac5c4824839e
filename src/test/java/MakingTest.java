/** Promises 1 to 4, 8 and 21: a new object, GANGS, BOATS, SPELLS, STONES, and how many there are. */
public final class MakingTest {
    private static final Checks C = new Checks();
    private static final int MIN = Integer.MIN_VALUE;
    private static final int MAX = Integer.MAX_VALUE;

    public static void main(String[] args) {
        newObject();
        gangs();
        boats();
        fullStores();
        spells();
        stones();
        counts();
        C.finish();
    }

    private static void newObject() {
        StoneWorks x = new StoneWorks();
        for (int what = 0; what <= 11; what++) {
            C.due("new: count(" + what + ")", x.count(what), 0);
        }
        int[] without = {5, 5, 5, 5, 2, 3, 4, 200, 10};
        for (int i = 0; i < without.length; i++) {
            C.due("new: count(" + (20 + i) + ")", x.count(20 + i), without[i]);
        }
        C.due("new: gangs(0, 0)", x.gangs(0, 0), -1);
        C.due("new: about(0, 0)", x.about(0, 0), -1);
        C.due("new: send(0, 0)", x.send(0, 0), 1);
        C.due("new: raise(0)", x.raise(0), 1);
        C.due("new: callOff(0)", x.callOff(0), false);
        C.due("new: plan()", x.plan(), -1);
        C.due("new: planned(0, 0)", x.planned(0, 0), -1);
        C.due("new: quarrel()", x.quarrel(), 0);
        C.due("new: quarrels(0)", x.quarrels(0), -1);
        C.due("new: isTrue(0)", x.isTrue(0), -1);
        C.due("new: table()", x.table(), 0);
    }

    private static void gangs() {
        StoneWorks x = new StoneWorks();
        for (int men : new int[] {0, -1, 201, MIN, MAX}) {
            C.due("gang(" + men + ")", x.gang(men), -1);
        }
        int[] men = {1, 200, 7, 7, 50, 99};
        for (int g = 0; g < 6; g++) {
            C.due("gang " + g, x.gang(men[g]), g);
            C.due("count(1)", x.count(1), g + 1);
        }
        C.due("a seventh gang", x.gang(5), -1);
        C.due("count(1)", x.count(1), 6);
        for (int g = 0; g < 6; g++) {
            C.due("men of gang " + g, x.gangs(g, 0), men[g]);
        }
    }

    private static void boats() {
        StoneWorks x = new StoneWorks();
        int[][] wrong = {{-1, 5}, {3001, 5}, {MAX, 5}, {MIN, 5}, {0, 0}, {0, -1}, {0, 1000001}, {0, MIN}, {0, MAX}};
        for (int[] w : wrong) {
            C.due("boat(" + w[0] + ", " + w[1] + ")", x.boat(w[0], w[1]), -1);
        }
        C.due("boat on day 0", x.boat(0, 1), 1);
        C.due("boat on the last day", x.boat(3000, 1000000), 2);
        C.due("no food ahead of the day", x.count(3), 0);
        C.due("pass(2)", x.pass(2), 2);
        C.due("food of day 0", x.count(3), 1);
        C.due("boat of yesterday", x.boat(1, 5), -1);
        C.due("boat of today", x.boat(2, 5), 3);
        C.due("second boat of today", x.boat(2, 6), 4);
        x.pass(1);
        C.due("food of both", x.count(3), 12);
        for (int n = 5; n <= 40; n++) {
            C.due("boat " + n, x.boat(10, 1), n);
        }
        C.due("boat 41, though others have landed", x.boat(10, 1), -1);
        C.due("count(7)", x.count(7), 40);
    }

    private static void fullStores() {
        StoneWorks x = new StoneWorks();
        for (int n = 1; n <= 9; n++) {
            x.boat(0, 1000000);
        }
        x.boat(0, 999999);
        x.boat(1, 5);
        x.boat(2, 1000000);
        x.pass(1);
        C.due("food below the most", x.count(3), 9999999);
        x.pass(1);
        C.due("food: what would be more is not taken", x.count(3), 10000000);
        x.gang(3);
        x.pass(1);
        C.due("food is full ahead of the meal", x.count(3), 9999997);
    }

    private static void spells() {
        StoneWorks x = new StoneWorks();
        int[][] wrong = {{-1, 0, 1}, {3, 0, 1}, {MIN, 0, 1}, {MAX, 0, 1}, {0, -1, 1}, {0, 0, 3001}, {0, 2, 1}, {1, MIN, MAX},
            {2, 3001, 3001}, {2, -5, -5}, {0, 1, MIN}, {0, MAX, MAX}};
        for (int[] w : wrong) {
            C.due("spell(" + w[0] + ", " + w[1] + ", " + w[2] + ")", x.spell(w[0], w[1], w[2]), -1);
        }
        C.due("count(8)", x.count(8), 0);
        x.pass(5);
        C.due("a spell of the past", x.spell(2, 0, 0), 1);
        C.due("a spell of all days", x.spell(0, 0, 3000), 2);
        C.due("a spell of one day", x.spell(1, 3000, 3000), 3);
        for (int n = 4; n <= 40; n++) {
            C.due("spell " + n, x.spell(n % 3, n, n + n), n);
        }
        C.due("spell 41", x.spell(0, 1, 2), -1);
        C.due("count(8)", x.count(8), 40);
    }

    private static void stones() {
        StoneWorks x = new StoneWorks();
        int[][] wrong = {{0, 0}, {100, 0}, {-1, 0}, {MIN, 0}, {MAX, 0}, {1, -1}, {1, 10}, {1, MIN}, {1, MAX}};
        for (int[] w : wrong) {
            C.due("stone(" + w[0] + ", " + w[1] + ")", x.stone(w[0], w[1]), -1);
        }
        for (int n = 0; n < 30; n++) {
            C.due("stone " + n, x.stone(n == 0 ? 1 : 99 - n % 3, n % 10), n);
            C.due("count(2)", x.count(2), n + 1);
        }
        C.due("stone 31", x.stone(1, 1), -1);
        C.due("about(29, 0)", x.about(29, 0), 0);
        C.due("about(30, 0)", x.about(30, 0), -1);
        C.due("plan of thirty", x.plan(), -1);
    }

    private static void counts() {
        StoneWorks x = new StoneWorks();
        for (int what : new int[] {-1, 12, 13, 19, 29, 30, MIN, MIN + 20, MAX}) {
            C.due("count(" + what + ")", x.count(what), -1);
        }
        x.gang(10);
        x.stone(5, 0);
        x.tally(3, 0, 0, 0);
        x.feed(1, 2, 3, 4, 5);
        x.pass(4);
        int[] due = {4, 1, 1, 0, 0, 0, 0, 0, 0, 20, 1, 4};
        for (int what = 0; what < due.length; what++) {
            C.due("count(" + what + ") after four hungry days", x.count(what), due[what]);
        }
    }
}
