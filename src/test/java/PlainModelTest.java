import java.util.Random;

/** All promises: runs of calls, likely and wild ones, against PlainModel. */
public final class PlainModelTest {
    private static final Checks C = new Checks();
    private static final int[] EDGES = {Integer.MIN_VALUE, -2, -1, 0, 1, 5, 6, 9, 10, 19, 20, 29, 30, 31, 40, 99, 100,
        200, 201, 400, 401, 2999, 3000, 3001, 1000000, 1000001, Integer.MAX_VALUE};
    private static final String[] WORDS = {"flat", "ramp", "cut", "way", "raft", "rope", "earth", "ropes", "cu", "x", "Way"};
    private static final int[] TAKES = {2, 2, 1, 1, 1, 1, 1, 1, 1, 1, 1};
    /** More than this many trials of the model's plan() would take too long. */
    private static final long MOST_TRIALS = 40000;

    private final Random r;
    private final StoneWorks x = new StoneWorks();
    private final PlainModel m = new PlainModel();
    private final String run;
    /** How far apart the DAYS of this run lie. */
    private final int span;

    private PlainModelTest(int seed) {
        r = new Random(seed);
        run = "run " + seed + ": ";
        span = new int[] {12, 60, 400}[r.nextInt(3)];
    }

    public static void main(String[] args) {
        int runs = args.length > 0 ? Integer.parseInt(args[0]) : 600;
        int first = args.length > 1 ? Integer.parseInt(args[1]) : 0;
        for (int seed = first; seed < first + runs; seed++) {
            new PlainModelTest(seed).go();
        }
        C.finish();
    }

    private int some(int from, int to) {
        return r.nextInt(40) == 0 ? EDGES[r.nextInt(EDGES.length)] : from + r.nextInt(to - from + 1);
    }

    private void due(String call, long got, long want) {
        C.due(run + call, got, want);
    }

    private void go() {
        if (r.nextInt(4) > 0) {
            provide();
        }
        for (int i = 0; i < 60; i++) {
            step();
            if (i % 6 == 0) {
                compareAll();
            }
        }
    }

    private void provide() {
        int load = 200 + r.nextInt(200000);
        due("boat", x.boat(0, load), m.boat(0, load));
        for (int i = r.nextInt(4); i >= 0; i--) {
            int men = 1 + r.nextInt(r.nextBoolean() ? 30 : 200);
            due("gang", x.gang(men), m.gang(men));
        }
        spell(0, 0, r.nextBoolean() ? 3000 : span);
    }

    private void spell(int kind, int from, int to) {
        due("spell(" + kind + ", " + from + ", " + to + ")", x.spell(kind, from, to), m.spell(kind, from, to));
    }

    private void step() {
        int now = m.count(0);
        switch (r.nextInt(16)) {
            case 0: {
                int men = some(1, 200);
                if (r.nextInt(3) == 0) {
                    due("gang(" + men + ")", x.gang(men), m.gang(men));
                }
                break;
            }
            case 1: {
                int day = some(now, now + span);
                int load = some(1, r.nextBoolean() ? 500 : 1000000);
                due("boat(" + day + ", " + load + ")", x.boat(day, load), m.boat(day, load));
                break;
            }
            case 2: {
                int from = some(now, now + span);
                spell(some(0, 2), from, r.nextInt(8) == 0 ? some(0, 3000) : from + r.nextInt(8));
                break;
            }
            case 3: case 4: {
                int weight = some(1, r.nextBoolean() ? 12 : 99);
                int course = some(0, r.nextInt(3));
                due("stone(" + weight + ", " + course + ")", x.stone(weight, course), m.stone(weight, course));
                break;
            }
            case 5: table(); break;
            case 6: case 7: case 8: case 9: sendAll(); break;
            case 10: {
                int gang = some(0, 5);
                if (r.nextInt(3) == 0) {
                    due("callOff(" + gang + ")", x.callOff(gang) ? 1 : 0, m.callOff(gang) ? 1 : 0);
                }
                break;
            }
            case 11: case 12: {
                int days = r.nextInt(3) > 0 ? some(1, 3) : some(1, span);
                due("pass(" + days + ")", x.pass(days), m.pass(days));
                break;
            }
            case 13: plan(); break;
            default: tally(now);
        }
    }

    private void sendAll() {
        for (int gang = 0; gang < m.count(1); gang++) {
            if (r.nextInt(5) == 0) {
                due("raise(" + gang + ")", x.raise(gang), m.raise(gang));
            } else {
                int stone = some(0, Math.max(0, m.count(2)));
                int who = some(gang, gang);
                due("send(" + who + ", " + stone + ")", x.send(who, stone), m.send(who, stone));
            }
        }
        int days = 1 + r.nextInt(4);
        due("pass(" + days + ")", x.pass(days), m.pass(days));
    }

    private void tally(int now) {
        int gang = some(0, r.nextBoolean() ? 1 : 5);
        int from = some(0, Math.min(3000, now + 3));
        int to = r.nextInt(4) == 0 ? some(0, 3000) : from + r.nextInt(20);
        int n = some(0, r.nextBoolean() ? 2 : 30);
        due("tally(" + gang + ", " + from + ", " + to + ", " + n + ")", x.tally(gang, from, to, n), m.tally(gang, from, to, n));
        due("quarrel()", x.quarrel(), m.quarrel());
    }

    private void plan() {
        if (m.planTrials() > MOST_TRIALS) {
            return;
        }
        due("plan()", x.plan(), m.plan());
    }

    private void blanks(StringBuilder text, int least) {
        for (int i = r.nextInt(6) == 0 ? r.nextInt(3) : least; i > 0; i--) {
            text.append(' ');
        }
    }

    private void number(StringBuilder text) {
        int kind = r.nextInt(14);
        if (kind == 0) {
            text.append(EDGES[3 + r.nextInt(16)]);
        } else if (kind == 1) {
            text.append('0').append(r.nextInt(100));
        } else {
            text.append(1 + r.nextInt(kind < 5 ? 20 : 9));
        }
    }

    private String text() {
        StringBuilder text = new StringBuilder();
        blanks(text, 0);
        for (int i = r.nextInt(5); i > 0; i--) {
            int word = r.nextInt(r.nextInt(6) == 0 ? WORDS.length : 7);
            text.append(WORDS[word]);
            for (int k = TAKES[word]; k > 0; k--) {
                blanks(text, 1);
                number(text);
            }
            blanks(text, 0);
            text.append(i > 1 || r.nextInt(12) == 0 ? ";" : "");
            blanks(text, 0);
        }
        if (text.length() > 0 && r.nextInt(5) == 0) {
            text.setCharAt(r.nextInt(text.length()), r.nextBoolean() ? (char) r.nextInt(256) : " ;5a".charAt(r.nextInt(4)));
        }
        return text.length() > 180 ? text.substring(0, 180) : text.toString();
    }

    private void table() {
        String text = text();
        for (int at = 0; at < text.length(); at += 20) {
            byte[] bytes = new byte[20];
            for (int i = 0; i < 20 && at + i < text.length(); i++) {
                bytes[i] = (byte) text.charAt(at + i);
            }
            int[] five = new int[5];
            for (int i = 0; i < 5; i++) {
                five[i] = Checks.number(bytes, 4 * i);
            }
            due("feed", x.feed(five[0], five[1], five[2], five[3], five[4]), m.feed(five));
        }
        int n = some(text.length(), text.length());
        due("end(" + n + ")", x.end(n), m.end(n));
        if (r.nextInt(10) > 0) {
            due("table() of \"" + text + "\"", x.table(), m.table());
        }
    }

    private void compareAll() {
        for (int what = -1; what <= 29; what++) {
            due("count(" + what + ")", x.count(what), m.count(what));
        }
        for (int what = -1; what <= 5; what++) {
            for (int i = -1; i <= 30; i++) {
                due("about(" + i + ", " + what + ")", x.about(i, what), m.about(i, what));
            }
            for (int i = -1; i <= 6; i++) {
                due("gangs(" + i + ", " + what + ")", x.gangs(i, what), m.gangs(i, what));
            }
            for (int i = -1; i <= 5; i++) {
                due("planned(" + i + ", " + what + ")", x.planned(i, what), m.planned(i, what));
            }
        }
        for (int i = -1; i <= 20; i++) {
            due("isTrue(" + i + ")", x.isTrue(i), m.isTrue(i));
            due("quarrels(" + i + ")", x.quarrels(i), m.quarrels(i));
        }
    }
}
