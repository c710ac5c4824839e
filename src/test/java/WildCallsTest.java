import java.util.Random;

/** No call ever throws, whatever is asked in whatever state, and the same calls give the same answers. */
public final class WildCallsTest {
    private static final int[] EDGES = {Integer.MIN_VALUE, Integer.MIN_VALUE + 1, -3001, -2, -1, 0, 1, 2, 3, 4, 5, 6, 9, 10, 19, 20, 28, 29,
        30, 31, 40, 99, 100, 200, 201, 400, 401, 2999, 3000, 3001, 1000000, Integer.MAX_VALUE - 1, Integer.MAX_VALUE};

    private static int wild(Random random, int most) {
        return random.nextInt(5) == 0 ? EDGES[random.nextInt(EDGES.length)] : random.nextInt(most);
    }

    private static long call(StoneWorks x, Random r) {
        switch (r.nextInt(22)) {
            case 0: return x.gang(wild(r, 201));
            case 1: return x.boat(wild(r, 3001), wild(r, 1000001));
            case 2: return x.spell(wild(r, 3), wild(r, 1500), wild(r, 3001));
            case 3: return x.feed(r.nextInt(), r.nextInt(), wild(r, 9), wild(r, 9), wild(r, 9));
            case 4: return x.end(wild(r, 200));
            case 5: return x.table();
            case 6: return x.stone(wild(r, 40), wild(r, 3));
            case 7: case 8: case 9: return x.send(wild(r, 6), wild(r, 8));
            case 10: return x.raise(wild(r, 6));
            case 11: return x.callOff(wild(r, 6)) ? 1 : 0;
            case 12: case 13: return x.pass(1 + r.nextInt(12) * r.nextInt(2));
            case 14: return x.pass(wild(r, 30));
            case 15: return x.about(wild(r, 30), wild(r, 5));
            case 16: return x.gangs(wild(r, 6), wild(r, 5));
            case 17: return 31L * x.plan() + x.planned(wild(r, 5), wild(r, 4));
            case 18: return x.tally(wild(r, 6), wild(r, 9), wild(r, 3001), wild(r, 31));
            case 19: return x.isTrue(wild(r, 20));
            case 20: return 31L * x.quarrel() + x.quarrels(wild(r, 5));
            default: return x.count(wild(r, 30));
        }
    }

    private static long run(int seed) {
        Random random = new Random(seed);
        StoneWorks x = new StoneWorks();
        long sum = 0;
        for (int i = 0; i < 512; i++) {
            sum = sum * 31 + call(x, random);
        }
        return sum;
    }

    public static void main(String[] args) {
        Checks c = new Checks();
        for (int seed = 0; seed < 400; seed++) {
            c.due("run " + seed + " once more", run(seed), run(seed));
        }
        c.finish();
    }
}
