import java.util.Random;

/** Promises 17 to 20: TALLIES, TRUE ones, and THE QUARREL, by hand and against all numbers tried. */
public final class TallyTest {
    private static final Checks C = new Checks();
    private static final int MIN = Integer.MIN_VALUE;
    private static final int MAX = Integer.MAX_VALUE;

    public static void main(String[] args) {
        making();
        truth();
        pairs();
        chain();
        quarrelStays();
        gangsApart();
        greatNumbers();
        full();
        againstAllNumbers();
        C.finish();
    }

    private static void making() {
        StoneWorks x = new StoneWorks();
        int[][] wrong = {{-1, 0, 1, 1}, {6, 0, 1, 1}, {MIN, 0, 1, 1}, {MAX, 0, 1, 1}, {0, -1, 1, 1}, {0, 0, 3001, 1}, {0, 2, 1, 1},
            {0, MIN, MAX, 1}, {0, 3001, 3001, 0}, {0, 0, 1, -1}, {0, 0, 1, 31}, {0, 0, 1, MIN}, {0, 0, 1, MAX}};
        for (int[] w : wrong) {
            C.due("tally(" + w[0] + ", " + w[1] + ", " + w[2] + ", " + w[3] + ")", x.tally(w[0], w[1], w[2], w[3]), -1);
        }
        for (int n = 0; n < 20; n++) {
            C.due("tally " + n, x.tally(n % 6, 0, 3000, 30), n);
            C.due("count(10)", x.count(10), n + 1);
        }
        C.due("tally 20", x.tally(0, 0, 3000, 30), -1);
        for (int n : new int[] {-1, 20, MIN, MAX}) {
            C.due("isTrue(" + n + ")", x.isTrue(n), -1);
        }
        C.due("isTrue(19)", x.isTrue(19), 0);
        C.due("no quarrel among twenty", x.quarrel(), 0);
    }

    private static void truth() {
        StoneWorks x = new StoneWorks();
        x.boat(0, 1000000);
        x.gang(50);
        x.spell(0, 0, 3000);
        Checks.tableOf(x, "cut 1;way 1;raft 1;earth 1");
        x.raise(0);
        x.pass(1);
        x.tally(0, 5, 5, 1);
        x.tally(0, 0, 3000, 2);
        x.tally(0, 6, 9, 0);
        x.tally(1, 0, 3000, 0);
        x.tally(5, 0, 3000, 1);
        for (int s = 0; s < 2; s++) {
            x.stone(10, 0);
            for (int step = 0; step < 5; step++) {
                C.due("not yet", x.isTrue(1), 0);
                x.send(0, s);
                x.pass(1);
            }
        }
        C.due("laid on day 5", x.about(0, 3), 5);
        C.due("laid on day 10", x.about(1, 3), 10);
        int[] due = {1, 1, 1, 1, 0};
        for (int t = 0; t < due.length; t++) {
            C.due("isTrue(" + t + ")", x.isTrue(t), due[t]);
        }
        C.due("tally", x.tally(0, 6, 10, 0), 5);
        C.due("the last day counts", x.isTrue(5), 0);
        C.due("tally", x.tally(0, 10, 10, 1), 6);
        C.due("one day", x.isTrue(6), 1);
    }

    private static void dueQuarrel(String name, StoneWorks x, int... members) {
        C.due(name + ": quarrel()", x.quarrel(), members.length);
        for (int k = 0; k < members.length; k++) {
            C.due(name + ": quarrels(" + k + ")", x.quarrels(k), members[k]);
        }
        for (int k : new int[] {members.length, -1, MIN, MAX}) {
            C.due(name + ": quarrels(" + k + ")", x.quarrels(k), -1);
        }
    }

    private static void pairs() {
        StoneWorks x = new StoneWorks();
        x.tally(2, 3, 9, 4);
        dueQuarrel("one", x);
        x.tally(2, 3, 9, 4);
        dueQuarrel("the same twice", x);
        x.tally(2, 3, 9, 5);
        // from the greatest number down: 2 must stay, 1 may go, 0 must stay then
        dueQuarrel("another number", x, 0, 2);
        StoneWorks y = new StoneWorks();
        y.tally(2, 3, 9, 4);
        y.tally(2, 4, 8, 5);
        C.due("asked without quarrel()", y.quarrels(1), 1);
        dueQuarrel("more within", y, 0, 1);
        StoneWorks z = new StoneWorks();
        z.tally(2, 3, 9, 5);
        z.tally(2, 4, 8, 4);
        z.tally(2, 10, 10, 30);
        z.tally(2, 9, 10, 30);
        z.tally(2, 3, 3, 1);
        dueQuarrel("all fit", z);
        z.tally(2, 9, 9, 1);
        // 9 to 10 are 30, and so is 10: 9 is none
        dueQuarrel("a day too many", z, 2, 3, 5);
    }

    private static void chain() {
        StoneWorks x = new StoneWorks();
        x.tally(0, 0, 4, 3);
        x.tally(0, 5, 9, 3);
        x.tally(0, 20, 30, 1);
        x.tally(0, 0, 9, 6);
        dueQuarrel("fits", x);
        x.tally(0, 3, 6, 7);
        // without 3, which goes first, 0 and 1 tell as much
        dueQuarrel("over the middle", x, 0, 1, 4);
        StoneWorks y = new StoneWorks();
        y.tally(0, 0, 9, 3);
        y.tally(0, 10, 19, 3);
        y.tally(0, 5, 14, 7);
        dueQuarrel("three of them", y, 0, 1, 2);
    }

    private static void quarrelStays() {
        StoneWorks x = new StoneWorks();
        x.tally(0, 0, 4, 3);
        x.tally(0, 0, 4, 4);
        dueQuarrel("two", x, 0, 1);
        x.tally(0, 0, 4, 5);
        x.tally(1, 0, 4, 5);
        x.tally(1, 0, 4, 6);
        dueQuarrel("later ones go first", x, 0, 1);
    }

    private static void gangsApart() {
        StoneWorks x = new StoneWorks();
        for (int g = 0; g < 6; g++) {
            x.tally(g, 0, 10, g);
        }
        dueQuarrel("gangs apart", x);
        x.tally(4, 2, 3, 5);
        dueQuarrel("within a gang", x, 4, 6);
    }

    private static void greatNumbers() {
        StoneWorks x = new StoneWorks();
        for (int i = 0; i < 19; i++) {
            x.tally(0, 100 * i, 100 * i + 99, 30);
        }
        dueQuarrel("more than 30 stones in all are no quarrel", x);
        x.tally(0, 0, 1899, 30);
        dueQuarrel("the sum of two is", x, 0, 1, 19);
    }

    private static void full() {
        StoneWorks x = new StoneWorks();
        for (int i = 0; i < 19; i++) {
            x.tally(0, i, i + 1, 3);
        }
        x.tally(0, 3000, 3000, 1);
        dueQuarrel("a chain of pairs", x);
        StoneWorks y = new StoneWorks();
        for (int i = 0; i < 20; i++) {
            y.tally(0, i, i + 1, i % 2 == 0 ? 1 : 2);
        }
        // day 4 would have two more than day 0, and days 4 and 5 have one
        dueQuarrel("a chain that grows too much", y, 0, 1, 2, 3, 4);
        StoneWorks z = new StoneWorks();
        for (int i = 0; i < 19; i++) {
            z.tally(0, i, i + 1, i % 2 == 0 ? 17 : 19);
        }
        z.tally(0, 19, 20, 17);
        // each two days add two: day 18 has 18 more than day 0, but 17 at most with day 19
        dueQuarrel("a long chain", z, 0, 1, 2, 3, 4, 5, 6, 7, 8, 9, 10, 11, 12, 13, 14, 15, 16, 17, 18);
    }

    private static void againstAllNumbers() {
        Random random = new Random(7);
        int quarrels = 0;
        for (int round = 0; round < 3000; round++) {
            StoneWorks x = new StoneWorks();
            int size = 1 + random.nextInt(8);
            int[][] tallies = new int[size][];
            for (int t = 0; t < size; t++) {
                int from = random.nextInt(5);
                int to = from + random.nextInt(5 - from);
                tallies[t] = new int[] {random.nextInt(2), from, to, random.nextInt(4)};
                x.tally(tallies[t][0], from, to, tallies[t][3]);
            }
            int left = (1 << size) - 1;
            if (fit(tallies, left)) {
                left = 0;
            }
            for (int t = size - 1; t >= 0; t--) {
                if ((left & 1 << t) != 0 && !fit(tallies, left & ~(1 << t))) {
                    left &= ~(1 << t);
                }
            }
            int[] members = new int[Integer.bitCount(left)];
            for (int t = 0, k = 0; t < size; t++) {
                if ((left & 1 << t) != 0) {
                    members[k++] = t;
                }
            }
            quarrels += left != 0 ? 1 : 0;
            dueQuarrel("round " + round, x, members);
        }
        C.due("rounds of both kinds: " + quarrels, quarrels > 500 && quarrels < 2500, true);
    }

    /** Whether some numbers for five DAYS make so many of the TALLIES hold, for each GANG. */
    private static boolean fit(int[][] tallies, int which) {
        return fit(tallies, which, 0, new int[5], 0) && fit(tallies, which, 1, new int[5], 0);
    }

    private static boolean fit(int[][] tallies, int which, int gang, int[] laid, int day) {
        for (int t = 0; t < tallies.length; t++) {
            if ((which & 1 << t) == 0 || tallies[t][0] != gang) {
                continue;
            }
            int sum = 0;
            for (int d = tallies[t][1]; d <= tallies[t][2]; d++) {
                sum += d < day ? laid[d] : 0;
            }
            if (sum > tallies[t][3] || day > tallies[t][2] && sum < tallies[t][3]) {
                return false;
            }
        }
        if (day == 5) {
            return true;
        }
        for (int n = 0; n <= 3; n++) {
            laid[day] = n;
            if (fit(tallies, which, gang, laid, day + 1)) {
                return true;
            }
        }
        return false;
    }
}
