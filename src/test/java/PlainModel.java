import java.util.ArrayList;
import java.util.Arrays;
import java.util.HashSet;
import java.util.List;
import java.util.Set;
import java.util.TreeSet;
import java.util.regex.Matcher;
import java.util.regex.Pattern;

/**
 * The document once more, in its plainest form: every DAY is looked at by itself, every order of THE PLAN is
 * tried, every text is cut into its parts first. It shares no code with StoneWorks.java, but it does share the
 * readings of the document that README.md lists: where those are wrong, both are.
 */
final class PlainModel {
    private static final int DAYS = 3001;
    private static final Pattern PART = Pattern.compile("[a-z]+|[0-9]+|[^ ]", Pattern.DOTALL);
    private static final List<String> WORDS = List.of("flat", "ramp", "cut", "way", "raft", "rope", "earth");
    private static final int[] TAKES = {2, 2, 1, 1, 1, 1, 1};
    private static final int[] FIRST = {0, 2, 4, 5, 6, 7, 8};
    private static final int[] MOST = {99, 99, 99, 99, 99, 20, 20, 200, 99};
    private static final int[] WITHOUT = {5, 5, 5, 5, 2, 3, 4, 200, 10};

    private final boolean[][] spellOn = new boolean[3][DAYS];
    private final long[][] landing = new long[DAYS][];
    private final List<Integer> men = new ArrayList<>();
    /** Of each GANG: what it works on (-1, 30: the RAMP), what is left, STONES laid, DAYS still. */
    private final List<int[]> gangs = new ArrayList<>();
    /** Of each STONE: weight, COURSE, 0 to 6, MARK, DAY. */
    private final List<int[]> stones = new ArrayList<>();
    private final List<int[]> tallies = new ArrayList<>();
    private int[] numbers = WITHOUT.clone();
    private String tape = "";
    private int now = 0;
    private int boats = 0;
    private int spells = 0;
    private long food = 0;
    private int high = 0;
    private int hunger = 0;
    private List<int[]> told = new ArrayList<>();

    int gang(int m) {
        if (gangs.size() == 6 || m < 1 || m > 200) {
            return -1;
        }
        men.add(m);
        gangs.add(new int[] {-1, 0, 0, 0});
        return gangs.size() - 1;
    }

    int boat(int day, int load) {
        if (boats == 40 || day < now || day < 0 || day > 3000 || load < 1 || load > 1000000) {
            return -1;
        }
        long[] before = landing[day] == null ? new long[0] : landing[day];
        landing[day] = Arrays.copyOf(before, before.length + 1);
        landing[day][before.length] = load;
        return ++boats;
    }

    int spell(int kind, int from, int to) {
        if (spells == 40 || kind < 0 || kind > 2 || from < 0 || to > 3000 || from > to) {
            return -1;
        }
        Arrays.fill(spellOn[kind], from, to + 1, true);
        return ++spells;
    }

    int feed(int... five) {
        if (tape.length() > 180) {
            return -1;
        }
        for (int n : five) {
            String hex = String.format("%08x", n);
            for (int i = 0; i < 8; i += 2) {
                tape += (char) Integer.parseInt(hex.substring(i, i + 2), 16);
            }
        }
        return tape.length();
    }

    int end(int n) {
        if (n < 0 || n > tape.length()) {
            return -1;
        }
        tape = tape.substring(0, n);
        return n;
    }

    /** A part of a text: its place, and what stands there ("" is the end). */
    private record Part(int place, String text) {
        boolean isWord() {
            return text.matches("[a-z]+");
        }

        boolean isNumber() {
            return text.matches("[0-9]+");
        }
    }

    private static List<Part> partsOf(String text) {
        List<Part> parts = new ArrayList<>();
        Matcher m = PART.matcher(text);
        while (m.find()) {
            parts.add(new Part(m.start(), m.group()));
        }
        parts.add(new Part(text.length(), ""));
        return parts;
    }

    int table() {
        List<Part> parts = partsOf(tape);
        tape = "";
        int[] fresh = WITHOUT.clone();
        Set<String> seen = new HashSet<>();
        int at = 0;
        if (parts.size() > 1) {
            while (true) {
                Part word = parts.get(at++);
                int which = word.isWord() ? WORDS.indexOf(word.text) : -1;
                if (which < 0) {
                    return -3 - 4 * word.place;
                }
                if (!seen.add(word.text)) {
                    return -5 - 4 * word.place;
                }
                for (int i = 0; i < TAKES[which]; i++) {
                    Part number = parts.get(at++);
                    if (!number.isNumber()) {
                        return -3 - 4 * number.place;
                    }
                    boolean few = number.text.length() <= 3;
                    int value = few ? Integer.parseInt(number.text) : 0;
                    if (value < 1 || value > MOST[FIRST[which] + i]) {
                        return -4 - 4 * number.place;
                    }
                    fresh[FIRST[which] + i] = value;
                }
                Part behind = parts.get(at++);
                if (behind.text.isEmpty()) {
                    break;
                }
                if (!behind.text.equals(";")) {
                    return -3 - 4 * behind.place;
                }
            }
        }
        numbers = fresh;
        return seen.size();
    }

    int stone(int weight, int course) {
        if (stones.size() == 30 || weight < 1 || weight > 99 || course < 0 || course > 9) {
            return -1;
        }
        stones.add(new int[] {weight, course, 0, -1, -1});
        return stones.size() - 1;
    }

    private int workerOf(int stone) {
        for (int g = 0; g < gangs.size(); g++) {
            if (gangs.get(g)[0] == stone) {
                return g;
            }
        }
        return -1;
    }

    private int pull(int stone, boolean wet) {
        int[] s = stones.get(stone);
        if (s[2] == 1 || s[2] == 4) {
            return (int) Math.ceil(s[0] * numbers[wet ? 1 : 0] / 10.0);
        }
        return s[2] == 3 ? (int) Math.ceil(s[0] * numbers[wet ? 3 : 2] / 10.0) : 0;
    }

    private boolean done(int stone) {
        return stones.get(stone)[2] >= 5;
    }

    int send(int gang, int stone) {
        if (gang < 0 || gang >= gangs.size() || stone < 0 || stone >= stones.size() || now == 3001) {
            return 1;
        }
        if (gangs.get(gang)[0] != -1) {
            return 2;
        }
        if (workerOf(stone) != -1) {
            return 3;
        }
        if (done(stone)) {
            return 4;
        }
        int[] s = stones.get(stone);
        int pull = pull(stone, spellOn[1][now]);
        if (pull > numbers[7]) {
            return 5;
        }
        if (pull > men.get(gang)) {
            return 6;
        }
        if (s[2] == 2 && !spellOn[0][now]) {
            return 7;
        }
        if (s[2] == 3 && !(high > s[1])) {
            return 8;
        }
        for (int other = 0; s[2] == 4 && other < stones.size(); other++) {
            if (stones.get(other)[1] < s[1] && !done(other)) {
                return 9;
            }
        }
        int[] lengths = {s[0] * numbers[4], numbers[5], numbers[6], s[1] + 1, 1};
        gangs.get(gang)[0] = stone;
        gangs.get(gang)[1] = lengths[s[2]];
        return 0;
    }

    int raise(int gang) {
        if (gang < 0 || gang >= gangs.size() || now == 3001) {
            return 1;
        }
        if (gangs.get(gang)[0] != -1) {
            return 2;
        }
        if (workerOf(30) != -1) {
            return 3;
        }
        if (high == 10) {
            return 4;
        }
        gangs.get(gang)[0] = 30;
        gangs.get(gang)[1] = numbers[8] * (high + 1);
        return 0;
    }

    boolean callOff(int gang) {
        if (gang < 0 || gang >= gangs.size() || gangs.get(gang)[0] == -1) {
            return false;
        }
        int work = gangs.get(gang)[0];
        if (work < 30 && stones.get(work)[2] == 2) {
            stones.get(work)[2] = 6;
        }
        noWork(gang);
        return true;
    }

    private void noWork(int gang) {
        gangs.get(gang)[0] = -1;
        gangs.get(gang)[1] = 0;
    }

    int pass(int days) {
        if (days < 1 || days > 400 || now + days > 3001) {
            return -1;
        }
        for (int i = 0; i < days; i++) {
            day();
            now++;
        }
        return now;
    }

    private void day() {
        for (long load : landing[now] == null ? new long[0] : landing[now]) {
            food = Math.min(10000000, food + load);
        }
        int all = men.stream().mapToInt(m -> m).sum();
        boolean hungry = food < all;
        if (hungry) {
            hunger++;
        } else {
            food -= all;
        }
        for (int g = 0; g < gangs.size(); g++) {
            if (gangs.get(g)[0] == -1) {
                continue;
            }
            int work = gangs.get(g)[0];
            boolean rafts = work < 30 && stones.get(work)[2] == 2;
            boolean nobody = hungry || spellOn[2][now];
            if (rafts && (nobody || !spellOn[0][now])) {
                stones.get(work)[2] = 6;
                noWork(g);
            } else if (!nobody) {
                work(g, work);
            }
        }
    }

    private void work(int g, int work) {
        int[] gang = gangs.get(g);
        boolean byMen = work == 30 || stones.get(work)[2] == 0;
        if (!byMen) {
            int pull = pull(work, spellOn[1][now]);
            if (pull > numbers[7] || pull > men.get(g)) {
                gang[3]++;
                return;
            }
        }
        gang[1] = Math.max(0, gang[1] - (byMen ? men.get(g) : 1));
        if (gang[1] > 0) {
            return;
        }
        noWork(g);
        if (work == 30) {
            high++;
            return;
        }
        int[] s = stones.get(work);
        s[2]++;
        if (s[2] == 5) {
            s[3] = g;
            s[4] = now;
            gang[2]++;
        }
    }

    int about(int stone, int what) {
        if (stone < 0 || stone >= stones.size() || what < 0 || what > 4) {
            return -1;
        }
        int[] s = stones.get(stone);
        return new int[] {s[2], workerOf(stone), s[3], s[4], pull(stone, false)}[what];
    }

    int gangs(int gang, int what) {
        if (gang < 0 || gang >= gangs.size() || what < 0 || what > 4) {
            return -1;
        }
        int[] g = gangs.get(gang);
        return new int[] {men.get(gang), g[0], g[1], g[2], g[3]}[what];
    }

    /** How many trials plan() would make here. */
    long planTrials() {
        long trials = 1;
        int left = 0;
        for (int i = 0; i < stones.size(); i++) {
            left += done(i) ? 0 : 1;
        }
        for (int i = 1; i <= left && left <= 5; i++) {
            trials *= (long) i * gangs.size();
        }
        return trials;
    }

    int plan() {
        List<Integer> left = new ArrayList<>();
        for (int i = 0; i < stones.size(); i++) {
            if (!done(i)) {
                left.add(i);
                if (workerOf(i) != -1) {
                    return -1;
                }
            }
        }
        if (left.size() > 5) {
            return -1;
        }
        if (left.isEmpty()) {
            told = new ArrayList<>();
            return now - 1;
        }
        Best best = new Best();
        tryOrders(left, new ArrayList<>(), best);
        if (best.rows == null) {
            return -1;
        }
        told = best.rows;
        return best.day;
    }

    private static final class Best {
        private int day = Integer.MAX_VALUE;
        private List<int[]> rows = null;
    }

    /** Orders come in the document's order, so only a lesser DAY is a better one. */
    private void tryOrders(List<Integer> left, List<Integer> order, Best best) {
        if (left.isEmpty()) {
            int[] takers = new int[order.size()];
            int all = (int) Math.pow(gangs.size(), order.size());
            for (int code = 0; code < all; code++) {
                int rest = code;
                for (int i = takers.length - 1; i >= 0; i--) {
                    takers[i] = rest % gangs.size();
                    rest /= gangs.size();
                }
                tryOne(order, takers, best);
            }
            return;
        }
        for (int i = 0; i < left.size(); i++) {
            List<Integer> fewer = new ArrayList<>(left);
            List<Integer> longer = new ArrayList<>(order);
            longer.add(fewer.remove(i));
            tryOrders(fewer, longer, best);
        }
    }

    private void tryOne(List<Integer> order, int[] takers, Best best) {
        for (int i = 0; i < takers.length; i++) {
            for (int j = i + 1; j < takers.length; j++) {
                if (stones.get(order.get(j))[1] < stones.get(order.get(i))[1]) {
                    return;
                }
            }
        }
        int[] free = new int[6];
        Arrays.fill(free, now);
        int last = -1;
        List<int[]> rows = new ArrayList<>();
        for (int i = 0; i < takers.length; i++) {
            int stone = order.get(i);
            int begin = free[takers[i]];
            int laid = layDay(stone, takers[i], begin);
            for (int[] row : rows) {
                if (laid != -1 && stones.get(row[0])[1] < stones.get(stone)[1]) {
                    laid = Math.max(laid, row[3] + 1);
                }
            }
            if (laid == -1 || laid > 3000) {
                return;
            }
            rows.add(new int[] {stone, takers[i], begin, laid});
            free[takers[i]] = laid + 1;
            last = Math.max(last, laid);
        }
        if (last < best.day) {
            best.day = last;
            best.rows = rows;
        }
    }

    private int layDay(int stone, int gang, int begin) {
        int[] s = stones.get(stone);
        int day = begin;
        if (gangs.get(gang)[0] != -1) {
            return -1;
        }
        for (int stage = s[2]; stage < 5; stage++) {
            int wanted = stage == 3 ? 2 : 0;
            boolean hauls = stage == 1 || stage == 3 || stage == 4;
            if (hauls && Math.ceil(s[0] * numbers[wanted] / 10.0) > men.get(gang)) {
                return -1;
            }
            if (stage == 3 && high <= s[1]) {
                return -1;
            }
            if (stage == 2) {
                while (day <= 3000 && !highFrom(day)) {
                    day++;
                }
            }
            switch (stage) {
                case 0: day += (int) Math.ceil((double) s[0] * numbers[4] / men.get(gang)); break;
                case 1: day += numbers[5]; break;
                case 2: day += numbers[6]; break;
                case 3: day += s[1] + 1; break;
                default: break;
            }
        }
        return day > 3000 ? -1 : day;
    }

    private boolean highFrom(int day) {
        for (int d = day; d < day + numbers[6]; d++) {
            if (d > 3000 || !spellOn[0][d]) {
                return false;
            }
        }
        return true;
    }

    int planned(int k, int what) {
        return k < 0 || k >= told.size() || what < 0 || what > 3 ? -1 : told.get(k)[what];
    }

    int tally(int gang, int from, int to, int n) {
        if (tallies.size() == 20 || gang < 0 || gang > 5 || from < 0 || to > 3000 || from > to || n < 0 || n > 30) {
            return -1;
        }
        tallies.add(new int[] {gang, from, to, n});
        return tallies.size() - 1;
    }

    int isTrue(int tally) {
        if (tally < 0 || tally >= tallies.size()) {
            return -1;
        }
        int[] t = tallies.get(tally);
        int found = 0;
        for (int[] s : stones) {
            found += s[2] == 5 && s[3] == t[0] && s[4] >= t[1] && s[4] <= t[2] ? 1 : 0;
        }
        return found == t[3] ? 1 : 0;
    }

    /** Distances between the borders of the DAYS: some way round that is below 0 is a QUARREL. */
    private static boolean quarrelling(List<int[]> some) {
        for (int gang = 0; gang < 6; gang++) {
            Set<Integer> days = new TreeSet<>();
            for (int[] t : some) {
                if (t[0] == gang) {
                    days.add(t[1]);
                    days.add(t[2] + 1);
                }
            }
            List<Integer> borders = new ArrayList<>(days);
            int size = borders.size();
            long[][] far = new long[size][size];
            for (int i = 0; i < size; i++) {
                Arrays.fill(far[i], 1000000);
                far[i][i] = 0;
                if (i > 0) {
                    far[i][i - 1] = 0;
                }
            }
            for (int[] t : some) {
                if (t[0] == gang) {
                    int a = borders.indexOf(t[1]);
                    int b = borders.indexOf(t[2] + 1);
                    far[a][b] = Math.min(far[a][b], t[3]);
                    far[b][a] = Math.min(far[b][a], -t[3]);
                }
            }
            for (int k = 0; k < size; k++) {
                for (int i = 0; i < size; i++) {
                    for (int j = 0; j < size; j++) {
                        far[i][j] = Math.min(far[i][j], far[i][k] + far[k][j]);
                    }
                }
            }
            for (int i = 0; i < size; i++) {
                if (far[i][i] < 0) {
                    return true;
                }
            }
        }
        return false;
    }

    private List<Integer> theQuarrel() {
        List<int[]> left = new ArrayList<>(tallies);
        List<Integer> found = new ArrayList<>();
        if (!quarrelling(left)) {
            return found;
        }
        for (int t = tallies.size() - 1; t >= 0; t--) {
            List<int[]> rest = new ArrayList<>(left);
            rest.remove(t);
            if (quarrelling(rest)) {
                left = rest;
            } else {
                found.add(0, t);
            }
        }
        return found;
    }

    int quarrel() {
        return theQuarrel().size();
    }

    int quarrels(int k) {
        List<Integer> found = theQuarrel();
        return k < 0 || k >= found.size() ? -1 : found.get(k);
    }

    int count(int what) {
        if (what >= 20 && what <= 28) {
            return numbers[what - 20];
        }
        int laid = (int) stones.stream().filter(s -> s[2] == 5).count();
        int lost = (int) stones.stream().filter(s -> s[2] == 6).count();
        int[] counts = {now, gangs.size(), stones.size(), (int) food, high, laid, lost, boats, spells, tape.length(), tallies.size(), hunger};
        return what < 0 || what > 11 ? -1 : counts[what];
    }
}
