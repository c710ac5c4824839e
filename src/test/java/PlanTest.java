import java.util.Random;

/** Promises 15 and 16: THE PLAN, by hand and against a search of every order and all GANGS. */
public final class PlanTest {
    private static final Checks C = new Checks();

    public static void main(String[] args) {
        none();
        tooMany();
        workedOn();
        men();
        stages();
        rafts();
        lesserCoursesFirst();
        waitForLesser();
        firstByStonesThenGangs();
        latestOneStays();
        byDay3000();
        againstEveryOrder();
        C.finish();
    }

    /** STONE, GANG, begin, laid, of each. */
    private static void duePlan(String name, StoneWorks x, int day, int... rows) {
        C.due(name + ": plan()", x.plan(), day);
        for (int i = 0; i < rows.length; i++) {
            C.due(name + ": planned(" + i / 4 + ", " + i % 4 + ")", x.planned(i / 4, i % 4), rows[i]);
        }
        C.due(name + ": planned(" + rows.length / 4 + ", 0)", x.planned(rows.length / 4, 0), -1);
    }

    private static void none() {
        StoneWorks x = new StoneWorks();
        C.due("none, day 0", x.plan(), -1);
        x.pass(7);
        C.due("none, day 7", x.plan(), 6);
        C.due("planned", x.planned(0, 0), -1);
        x.stone(1, 0);
        C.due("no gang", x.plan(), -1);
    }

    private static void tooMany() {
        StoneWorks x = Sites.withRamp("cut 1;way 1;raft 1", 1, 50);
        for (int i = 0; i < 5; i++) {
            x.stone(10, 0);
        }
        int now = x.count(0);
        C.due("five", x.plan(), now + 24);
        x.stone(10, 0);
        C.due("six", x.plan(), -1);
        C.due("planned stays", x.planned(4, 3), now + 24);
    }

    private static void workedOn() {
        StoneWorks x = Sites.withRamp("cut 1;way 1;raft 1", 1, 50, 50);
        x.stone(10, 0);
        x.send(0, 0);
        C.due("worked on", x.plan(), -1);
        x.callOff(0);
        duePlan("called off", x, x.count(0) + 4, 0, 0, x.count(0), x.count(0) + 4);
        x.raise(0);
        duePlan("a gang that raises is left out", x, x.count(0) + 4, 0, 1, x.count(0), x.count(0) + 4);
        x.raise(1);
        x.callOff(0);
        x.raise(1);
        duePlan("the other one", x, x.count(0) + 4, 0, 0, x.count(0), x.count(0) + 4);
        x.stone(10, 1);
        C.due("the ramp is too low", x.plan(), -1);
    }

    private static void men() {
        StoneWorks x = Sites.withRamp("cut 1;way 1;raft 1;flat 5 99;ramp 6 99;rope 1", 1, 11, 12, 24);
        x.spell(1, 0, 3000);
        x.spell(2, 0, 3000);
        x.stone(20, 0);
        int now = x.count(0);
        duePlan("12 men wanted on the ramp; one day less with 24", x, now + 4, 0, 2, now, now + 4);
        x.raise(2);
        duePlan("12 men are enough", x, now + 5, 0, 1, now, now + 5);
        x.raise(1);
        x.callOff(2);
        x.raise(1);
        C.due("11 are not", x.plan(), now + 4);
    }

    private static void stages() {
        StoneWorks x = Sites.withRamp("cut 3;way 4;raft 2", 2, 10);
        x.stone(10, 1);
        for (int state = 0, left = 3 + 4 + 2 + 2 + 1; state < 5; state++) {
            int now = x.count(0);
            duePlan("state " + state, x, now + left - 1, 0, 0, now, now + left - 1);
            int before = now;
            C.due("send", x.send(0, 0), 0);
            while (x.about(0, 0) == state) {
                x.pass(1);
            }
            left -= x.count(0) - before;
        }
        C.due("laid", x.plan(), x.count(0) - 1);
        C.due("none is planned", x.planned(0, 0), -1);
    }

    private static void rafts() {
        StoneWorks x = Sites.onLowRiver("cut 1;way 1;raft 3", 1, 10);
        x.stone(10, 0);
        int now = x.count(0);
        C.due("never high", x.plan(), -1);
        x.spell(0, now, now + 3);
        C.due("two days are too few", x.plan(), -1);
        x.spell(0, now + 9, now + 10);
        x.spell(0, now + 20, now + 30);
        duePlan("the first three", x, now + 24, 0, 0, now, now + 24);
        x.spell(0, now + 11, now + 11);
        duePlan("two spells side by side", x, now + 13, 0, 0, now, now + 13);
        x.spell(0, now + 4, now + 4);
        duePlan("at once", x, now + 6, 0, 0, now, now + 6);
    }

    private static void lesserCoursesFirst() {
        StoneWorks x = Sites.withRamp("cut 1;way 1;raft 1", 2, 10, 10);
        x.stone(10, 1);
        x.stone(10, 0);
        int now = x.count(0);
        duePlan("the lesser course goes ahead", x, now + 5, 1, 0, now, now + 4, 0, 1, now, now + 5);
    }

    private static void waitForLesser() {
        StoneWorks x = Sites.withRamp("cut 1;way 1;raft 1", 2, 10, 50);
        x.stone(90, 0);
        x.stone(20, 1);
        // stone 0 wants 45 men: gang 1 alone; gang 0 has stone 1 up long before
        int now = x.count(0);
        duePlan("laid on the day behind", x, now + 6, 0, 1, now, now + 5, 1, 0, now, now + 6);
    }

    private static void firstByStonesThenGangs() {
        StoneWorks x = Sites.withRamp("cut 1;way 1;raft 1", 1, 10, 10, 20);
        x.stone(20, 0);
        x.stone(10, 0);
        x.stone(10, 0);
        int now = x.count(0);
        duePlan("gang 2 cuts in a day", x, now + 4, 0, 2, now, now + 4, 1, 0, now, now + 4, 2, 1, now, now + 4);
        StoneWorks y = Sites.onLowRiver("cut 1;way 1;raft 1", 1, 20);
        int day = y.count(0);
        y.spell(0, day, day + 2);
        y.spell(0, day + 8, day + 8);
        y.stone(30, 0);
        y.stone(10, 0);
        duePlan("stone 0 first would miss the river", y, day + 10, 1, 0, day, day + 4, 0, 0, day + 5, day + 10);
        y.spell(0, day + 9, day + 15);
        duePlan("stone 0 first still ends later", y, day + 10, 1, 0, day, day + 4, 0, 0, day + 5, day + 10);
        StoneWorks z = Sites.withRamp("cut 1;way 1;raft 1", 1, 20, 20);
        int first = z.count(0);
        z.stone(10, 0);
        z.stone(10, 0);
        z.stone(10, 0);
        duePlan("any order will do, and gang 0 twice", z, first + 9, 0, 0, first, first + 4, 1, 0, first + 5, first + 9,
                2, 1, first, first + 4);
    }

    private static void latestOneStays() {
        StoneWorks x = Sites.withRamp("cut 1;way 1;raft 1", 1, 10);
        x.stone(10, 0);
        int now = x.count(0);
        duePlan("one", x, now + 4, 0, 0, now, now + 4);
        x.stone(10, 5);
        C.due("can't be", x.plan(), -1);
        C.due("stays", x.planned(0, 3), now + 4);
        for (int k : new int[] {-1, 1, 5, Integer.MIN_VALUE, Integer.MAX_VALUE}) {
            C.due("planned(" + k + ", 0)", x.planned(k, 0), -1);
            C.due("planned(0, " + (k == 1 ? 4 : k) + ")", x.planned(0, k == 1 ? 4 : k), -1);
        }
    }

    private static void byDay3000() {
        StoneWorks x = Sites.withRamp("cut 1;way 1;raft 1", 1, 10);
        x.stone(10, 0);
        Sites.passTo(x, 2996);
        duePlan("laid on day 3000", x, 3000, 0, 0, 2996, 3000);
        x.stone(10, 0);
        C.due("the second can't be", x.plan(), -1);
        x.pass(1);
        C.due("too late", x.plan(), -1);
        StoneWorks z = Sites.withRamp("cut 1;way 1;raft 1", 2, 10, 10);
        z.stone(10, 0);
        z.stone(10, 1);
        Sites.passTo(z, 2995);
        duePlan("both by day 3000", z, 3000, 0, 0, 2995, 2999, 1, 1, 2995, 3000);
        z.stone(11, 0);
        C.due("the second course would be laid on day 3001", z.plan(), -1);
        StoneWorks y = Sites.withRamp("cut 99", 1, 1);
        y.stone(2, 0);
        int now = y.count(0);
        duePlan("198 days of cutting", y, now + 198 + 3 + 4 + 1, 0, 0, now, now + 206);
    }

    private static void againstEveryOrder() {
        Random random = new Random(20261118);
        int told = 0;
        for (int round = 0; round < 1500; round++) {
            PlanRound r = new PlanRound(random);
            EveryOrder search = r.search();
            int day = r.works.plan();
            C.due("round " + round + ": plan()", day, search.best);
            told += day >= 0 ? 1 : 0;
            for (int k = 0; k < 5; k++) {
                for (int what = 0; what < 4; what++) {
                    int want = search.best >= 0 && k < r.size ? search.rows[k][what] : -1;
                    C.due("round " + round + ": planned(" + k + ", " + what + ")", r.works.planned(k, what), want);
                }
            }
        }
        C.due("most rounds have a plan: " + told, told > 700, true);
    }

    /** An object in some state, and all that is known of it. */
    private static final class PlanRound {
        final StoneWorks works = Sites.fed();
        final boolean[] high = new boolean[3200];
        final int[] men;
        final int[] weight;
        final int[] course;
        final int size;
        final int cut;
        final int way;
        final int raft;
        final int flat;
        final int ramp;

        PlanRound(Random random) {
            men = new int[1 + random.nextInt(4)];
            boolean strong = random.nextBoolean();
            for (int g = 0; g < men.length; g++) {
                men[g] = strong ? 20 + random.nextInt(40) : 1 + random.nextInt(60);
                works.gang(men[g]);
            }
            size = random.nextInt(men.length > 3 ? 5 : 6);
            weight = new int[size];
            course = new int[size];
            int courses = 1 + random.nextInt(3);
            Checks.tableOf(works, "earth 1");
            Sites.raiseRamp(works, 0, random.nextInt(6) == 0 ? courses - 1 : courses);
            cut = 1 + random.nextInt(5);
            way = 1 + random.nextInt(3);
            raft = 1 + random.nextInt(4);
            flat = 1 + random.nextInt(6);
            ramp = 1 + random.nextInt(6);
            Checks.tableOf(works, "cut " + cut + ";way " + way + ";raft " + raft + ";flat " + flat + " 1;ramp " + ramp + " 99");
            for (int i = 0; i < size; i++) {
                weight[i] = 1 + random.nextInt(60);
                course[i] = random.nextInt(courses);
                works.stone(weight[i], course[i]);
            }
            addSpells(random);
            workSome(random);
        }

        private void addSpells(Random random) {
            int now = works.count(0);
            for (int n = 1 + random.nextInt(8); n > 0; n--) {
                int from = now + random.nextInt(60);
                int to = from + random.nextInt(30);
                works.spell(0, from, to);
                for (int d = from; d <= to; d++) {
                    high[d] = true;
                }
            }
            if (random.nextInt(4) > 0) {
                works.spell(0, now + 80, 3000);
                for (int d = now + 80; d <= 3000; d++) {
                    high[d] = true;
                }
            }
        }

        private void workSome(Random random) {
            for (int days = random.nextInt(30); days > 0 && size > 0; days--) {
                works.send(random.nextInt(men.length), random.nextInt(size));
                works.pass(1);
            }
            for (int g = 0; g < men.length; g++) {
                if (random.nextInt(40) > 0) {
                    works.callOff(g);
                }
            }
            works.raise(random.nextInt(men.length + 2));
        }

        EveryOrder search() {
            EveryOrder search = new EveryOrder(this);
            search.start();
            return search;
        }
    }

    /** Looks at every order and all GANGS, one by one, as the document tells it. */
    private static final class EveryOrder {
        final PlanRound r;
        // read once: an object is used for at most 512 calls
        final int now;
        final int rampHigh;
        final int[] state;
        final boolean[] free;
        int best = -1;
        int[][] rows;
        int[] todo;

        EveryOrder(PlanRound r) {
            this.r = r;
            now = r.works.count(0);
            rampHigh = r.works.count(4);
            state = new int[r.size];
            for (int s = 0; s < r.size; s++) {
                state[s] = r.works.about(s, 0);
            }
            free = new boolean[r.men.length];
            for (int g = 0; g < r.men.length; g++) {
                free[g] = r.works.gangs(g, 1) == -1;
            }
        }

        void start() {
            int n = 0;
            todo = new int[r.size];
            for (int s = 0; s < r.size; s++) {
                if (state[s] < 5) {
                    if (r.works.about(s, 1) != -1) {
                        return;
                    }
                    todo[n++] = s;
                }
            }
            todo = java.util.Arrays.copyOf(todo, n);
            if (n == 0) {
                best = now - 1;
                rows = new int[5][];
                java.util.Arrays.fill(rows, new int[] {-1, -1, -1, -1});
                return;
            }
            orders(new int[n], 0);
            if (best >= 0) {
                int[][] all = new int[5][];
                for (int k = 0; k < 5; k++) {
                    all[k] = k < n ? rows[k] : new int[] {-1, -1, -1, -1};
                }
                rows = all;
            }
        }

        private void orders(int[] order, int k) {
            if (k == order.length) {
                takers(order, new int[k], 0);
                return;
            }
            for (int s : todo) {
                boolean used = false;
                for (int j = 0; j < k; j++) {
                    used |= order[j] == s;
                }
                if (!used) {
                    order[k] = s;
                    orders(order, k + 1);
                }
            }
        }

        private void takers(int[] order, int[] gangs, int k) {
            if (k == order.length) {
                look(order, gangs);
                return;
            }
            for (int g = 0; g < r.men.length; g++) {
                if (free[g]) {
                    gangs[k] = g;
                    takers(order, gangs, k + 1);
                }
            }
        }

        private void look(int[] order, int[] gangs) {
            int[][] found = new int[order.length][];
            int last = -1;
            for (int k = 0; k < order.length; k++) {
                int begin = now;
                int earliest = now;
                int s = order[k];
                for (int j = 0; j < order.length; j++) {
                    boolean lesser = r.course[order[j]] < r.course[s];
                    if (lesser && j > k) {
                        return;
                    }
                    if (j < k && gangs[j] == gangs[k]) {
                        begin = Math.max(begin, found[j][3] + 1);
                    }
                    if (j < k && lesser) {
                        earliest = Math.max(earliest, found[j][3] + 1);
                    }
                }
                int day = Math.max(earliest, ready(s, gangs[k], begin));
                if (day > 3000) {
                    return;
                }
                found[k] = new int[] {s, gangs[k], begin, day};
                last = Math.max(last, day);
            }
            if (best == -1 || last < best) {
                best = last;
                rows = found;
            }
        }

        private int ready(int s, int g, int begin) {
            int never = 9999;
            int day = begin;
            if (Math.ceil(r.weight[s] * r.flat / 10.0) > r.men[g]) {
                return never;
            }
            if (state[s] == 0) {
                day += (int) Math.ceil(r.weight[s] * r.cut / (double) r.men[g]);
            }
            if (state[s] <= 1) {
                day += r.way;
            }
            if (state[s] <= 2) {
                day = raftFrom(day) + r.raft;
            }
            if (state[s] <= 3) {
                if (Math.ceil(r.weight[s] * r.ramp / 10.0) > r.men[g] || rampHigh <= r.course[s]) {
                    return never;
                }
                day += r.course[s] + 1;
            }
            return day;
        }

        private int raftFrom(int ready) {
            for (int day = ready; day <= 3000; day++) {
                int days = 0;
                while (days < r.raft && r.high[day + days]) {
                    days++;
                }
                if (days == r.raft) {
                    return day;
                }
            }
            return 9999;
        }
    }
}
