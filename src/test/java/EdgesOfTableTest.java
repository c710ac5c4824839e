import java.util.Arrays;

/** The boundary cases of promises 5 to 7: the TAPE and the TABLE. */
public final class EdgesOfTableTest {
    private static final Checks C = new Checks();
    private static final String[] WORDS = {"flat", "ramp", "cut", "way", "raft", "rope", "earth"};
    private static final String[] RANGES = {"flat d w, ramp d w (1 to 99 each:", "flat d w, ramp d w (1 to 99 each:", "cut n (1 to 99:",
        "way n (1 to 20:", "raft n (1 to 20:", "rope n (1 to 200:", "earth n (1 to 99:"};
    private static final int[] MOST = {99, 99, 99, 20, 20, 200, 99};
    private static final int[] WITHOUT = {5, 5, 5, 5, 2, 3, 4, 200, 10};
    private static final int BLANKS = 0x20202020;

    public static void main(String[] args) {
        highestFirst();
        tooManyBytes();
        refusedFeedLeavesTheTape();
        endOfAll();
        tooLargeAnEnd();
        endBelowNone();
        endedBytesAreGone();
        emptyThen();
        blanksAlone();
        longestText();
        clausesOnceAtMost();
        leastAndMost();
        tooSmallOrTooLarge();
        digits();
        digitsGoOn();
        blanksBetween();
        bytesThatCannotStand();
        wordsThatCannotStand();
        theEndOfTheText();
        theFirstAlongIt();
        faultyOneLeavesTheTable();
        withoutAClause();
        C.finish();
    }

    private static String clause(int which, String number) {
        return WORDS[which] + " " + number + (which < 2 ? " " + number : "");
    }

    private static void dueTable(String text, int answer) {
        C.due("table of '" + text + "'", Checks.tableOf(new StoneWorks(), text), answer);
    }

    private static void dueFault(String text, int place, int kind) {
        dueTable(text, Checks.fault(place, kind));
    }

    private static void dueNumbers(String name, StoneWorks x, int... numbers) {
        for (int i = 0; i < numbers.length; i++) {
            C.due(name + ": count(" + (20 + i) + ")", x.count(20 + i), numbers[i]);
        }
    }

    // ---- promise 5

    private static void highestFirst() {
        C.sentence(5, "Twenty bytes come behind the TAPE, of each number the highest first: how many it has;");
        StoneWorks x = new StoneWorks();
        // "flat 12 34;rope 156 ", each byte in its own place
        C.due("feed", x.feed(0x666c6174, 0x20313220, 0x33343b72, 0x6f706520, 0x31353620), 20);
        C.due("feed behind it", x.feed(0x3b776179, 0x20313920, BLANKS, BLANKS, BLANKS), 40);
        C.due("table()", x.table(), 3);
        dueNumbers("all of them", x, 12, 34, 5, 5, 2, 19, 4, 156, 10);
        // numbers below 0: the highest byte is 128 and more, and no letter, digit or blank
        x.feed(BLANKS, BLANKS, BLANKS, BLANKS, 0x202020ff);
        C.due("a byte of 255", x.table(), Checks.fault(19, 0));
        x.feed(BLANKS, Integer.MIN_VALUE, BLANKS, BLANKS, BLANKS);
        C.due("a byte of 128", x.table(), Checks.fault(4, 0));
        x.feed(-1, -1, -1, -1, -1);
        C.due("all of 255", x.table(), Checks.fault(0, 0));
    }

    private static void tooManyBytes() {
        C.sentence(5, "NONE, and none comes, if it would have more than 200.");
        for (int had = 179; had <= 200; had++) {
            StoneWorks x = new StoneWorks();
            for (int i = 0; i < 10; i++) {
                C.due("feed", x.feed(0, 0, 0, 0, 0), 20 * i + 20);
            }
            x.end(had);
            C.due("feed behind " + had, x.feed(0, 0, 0, 0, 0), had <= 180 ? had + 20 : -1);
            C.due("count(9)", x.count(9), had <= 180 ? had + 20 : had);
        }
    }

    private static void refusedFeedLeavesTheTape() {
        C.sentence(5, "NONE, and none comes, if it would have more than 200.");
        StoneWorks x = new StoneWorks();
        Checks.write(x, "way 9;cut 8" + " ".repeat(170));
        C.due("count(9)", x.count(9), 181);
        C.due("feed", x.feed(-1, -1, -1, -1, -1), -1);
        C.due("count(9)", x.count(9), 181);
        C.due("table()", x.table(), 2);
        C.due("feed, the tape being empty again", x.feed(-1, -1, -1, -1, -1), 20);
    }

    // ---- promise 6

    private static void endOfAll() {
        C.sentence(6, "The TAPE has its first n bytes alone: n;");
        StoneWorks x = new StoneWorks();
        C.due("end(0) of none", x.end(0), 0);
        for (int i = 0; i < 10; i++) {
            x.feed(0, 0, 0, 0, 0);
        }
        for (int n : new int[] {200, 199, 20, 20, 1, 0, 0}) {
            C.due("end(" + n + ")", x.end(n), n);
            C.due("count(9)", x.count(9), n);
        }
    }

    private static void tooLargeAnEnd() {
        C.sentence(6, "NONE, and nothing happens, if it has not so many,");
        StoneWorks x = new StoneWorks();
        C.due("end(1) of none", x.end(1), -1);
        C.due("count(9)", x.count(9), 0);
        Checks.write(x, "cut 7");
        for (int n : new int[] {6, 20, 200, 201, Sites.MAX}) {
            C.due("end(" + n + ") of five", x.end(n), -1);
            C.due("count(9)", x.count(9), 5);
        }
        C.due("table()", x.table(), 1);
        C.due("cut", x.count(24), 7);
    }

    private static void endBelowNone() {
        C.sentence(6, "or n is below 0.");
        StoneWorks x = new StoneWorks();
        C.due("end(-1) of none", x.end(-1), -1);
        Checks.write(x, "cut 7");
        for (int n : new int[] {-1, -5, -200, Sites.MIN, Sites.MIN + 1}) {
            C.due("end(" + n + ")", x.end(n), -1);
            C.due("count(9)", x.count(9), 5);
        }
        C.due("table()", x.table(), 1);
        C.due("cut", x.count(24), 7);
    }

    private static void endedBytesAreGone() {
        C.sentence(6, "The TAPE has its first n bytes alone: n;");
        StoneWorks x = new StoneWorks();
        Checks.write(x, "cut 77;way 1");
        C.due("end(5)", x.end(5), 5);
        C.due("end(6), which was there", x.end(6), -1);
        C.due("table()", x.table(), 1);
        C.due("cut", x.count(24), 7);
        C.due("way", x.count(25), 3);
    }

    // ---- promise 7

    private static void emptyThen() {
        C.sentence(7, "The TAPE, which is empty then, is the TABLE:");
        StoneWorks x = new StoneWorks();
        Checks.write(x, "cut 7");
        C.due("table()", x.table(), 1);
        C.due("count(9)", x.count(9), 0);
        Checks.write(x, "cut 0");
        C.due("table() with a fault", x.table(), Checks.fault(4, 1));
        C.due("count(9)", x.count(9), 0);
        C.due("cut", x.count(24), 7);
        Checks.write(x, "cut 8");
        C.due("table() behind a faulty one", x.table(), 1);
        C.due("cut", x.count(24), 8);
        C.due("table() of nothing", x.table(), 0);
    }

    private static void blanksAlone() {
        C.sentence(7, "A text of blanks alone: all as without.");
        for (int n : new int[] {0, 1, 2, 20, 199, 200}) {
            StoneWorks x = new StoneWorks();
            Checks.tableOf(x, "flat 1 2;ramp 3 4;cut 5;way 6;raft 7;rope 8;earth 9");
            C.due("table of " + n + " blanks", Checks.tableOf(x, " ".repeat(n)), 0);
            dueNumbers(n + " blanks", x, WITHOUT);
        }
    }

    private static void longestText() {
        C.sentence(7, "a text of at most 200 bytes");
        StoneWorks x = new StoneWorks();
        C.due("table of 200", Checks.tableOf(x, "cut 8" + " ".repeat(189) + ";way 9"), 2);
        C.due("way", x.count(25), 9);
        dueFault("cut 8" + " ".repeat(194) + "x", 199, 0);
        dueFault("cut 8" + " ".repeat(194) + ";", 200, 0);
        dueFault(" ".repeat(197) + "way", 200, 0);
        dueFault(" ".repeat(196) + "way0", 199, 1);
        dueTable(" ".repeat(195) + "cut 9", 1);
        dueFault("cut " + "1".repeat(196), 4, 1);
        dueFault("a".repeat(200), 0, 0);
    }

    private static void clausesOnceAtMost() {
        C.sentence(7, "2 a CLAUSE told twice (at its WORD)");
        for (int i = 0; i < WORDS.length; i++) {
            String once = clause(i, "1");
            dueFault(once + ";" + once, once.length() + 1, 2);
            dueFault(once + " ;  " + WORDS[i], once.length() + 4, 2);
            dueFault(once + ";" + WORDS[i] + " 0", once.length() + 1, 2);
            String other = clause((i + 1) % WORDS.length, "1");
            dueFault(once + ";" + other + ";" + once, once.length() + other.length() + 2, 2);
        }
        String all = String.join(";", "flat 1 2", "ramp 3 4", "cut 5", "way 6", "raft 7", "rope 8", "earth 9");
        dueTable(all, 7);
        dueFault(all + ";flat 1 2", all.length() + 1, 2);
        dueFault(all + ";earth 9", all.length() + 1, 2);
    }

    private static void leastAndMost() {
        int[] firstNumber = {0, 2, 4, 5, 6, 7, 8};
        for (int i = 0; i < WORDS.length; i++) {
            C.sentence(7, RANGES[i]);
            for (int n : new int[] {1, MOST[i]}) {
                StoneWorks x = new StoneWorks();
                C.due(clause(i, "" + n), Checks.tableOf(x, clause(i, "" + n)), 1);
                int[] numbers = WITHOUT.clone();
                Arrays.fill(numbers, firstNumber[i], firstNumber[i] + (i < 2 ? 2 : 1), n);
                dueNumbers(clause(i, "" + n), x, numbers);
            }
        }
    }

    private static void tooSmallOrTooLarge() {
        for (int i = 0; i < WORDS.length; i++) {
            C.sentence(7, RANGES[i]);
            int place = WORDS[i].length() + 1;
            for (String n : new String[] {"0", "00", "000", "" + (MOST[i] + 1), "999", "1000", "0001", "4294967297"}) {
                dueFault(clause(i, n), place, 1);
                dueFault(" " + clause(i, n), place + 1, 1);
            }
        }
        C.sentence(7, "1 a NUMBER not as told (of more digits, too);");
        for (int i = 0; i < 2; i++) {
            dueFault(WORDS[i] + " 1 0", 7, 1);
            dueFault(WORDS[i] + " 99 100", 8, 1);
            dueFault(WORDS[i] + " 1 0001", 7, 1);
        }
    }

    private static void digits() {
        C.sentence(7, "NUMBERS digits (as far as these go on, 1 to 3 of them)");
        for (String n : new String[] {"7", "07", "007"}) {
            StoneWorks x = new StoneWorks();
            C.due("cut " + n, Checks.tableOf(x, "cut " + n), 1);
            C.due("cut", x.count(24), 7);
        }
        dueFault("cut 0007", 4, 1);
        StoneWorks x = new StoneWorks();
        C.due("rope 200", Checks.tableOf(x, "rope 200"), 1);
        C.due("rope", x.count(27), 200);
        dueFault("rope 0200", 5, 1);
    }

    private static void digitsGoOn() {
        C.sentence(7, "NUMBERS digits (as far as these go on,");
        dueFault("flat 55", 7, 0);
        dueFault("flat 5555", 5, 1);
        dueFault("flat 1000 5", 5, 1);
        dueFault("cut 5 5", 6, 0);
    }

    private static void blanksBetween() {
        C.sentence(7, "blanks (32) between.");
        dueTable("   flat   1   2   ;   cut   3   ", 2);
        dueTable("flat 1 2;cut 3", 2);
        dueTable("flat 1 2 ;cut 3", 2);
        dueTable("flat 1 2; cut 3", 2);
        dueFault("c ut 3", 0, 0);
        dueFault("cut 3 ; w ay 3", 8, 0);
        for (char other : new char[] {'\t', '\n', '\r', 0, 31, 33, 160}) {
            dueFault(other + "cut 3", 0, 0);
            dueFault("cut" + other + "3", 3, 0);
            dueFault("cut 3" + other, 5, 0);
            dueFault("flat 1" + other + "2", 6, 0);
        }
    }

    private static void bytesThatCannotStand() {
        C.sentence(7, "0 a byte or WORD that can't stand there,");
        for (int b = 0; b < 256; b++) {
            char c = (char) b;
            boolean digit = c >= '0' && c <= '9';
            if (c != ' ') {
                dueFault(c + " 3", 0, 0);
                dueFault("cut 3;" + c, 6, 0);
            }
            if (!digit && c != ' ') {
                dueFault("cut " + c, 4, 0);
                dueFault("flat 1 " + c, 7, 0);
            }
            if (!digit && c != ' ' && c != ';') {
                dueFault("cut 3" + c + "way 3", 5, 0);
            }
        }
    }

    private static void wordsThatCannotStand() {
        C.sentence(7, "0 a byte or WORD that can't stand there,");
        for (int i = 0; i < WORDS.length; i++) {
            String word = WORDS[i];
            String numbers = i < 2 ? " 1 1" : " 1";
            dueFault(word.substring(1) + numbers, 0, 0);
            dueFault("x" + word.substring(1) + numbers, 0, 0);
            dueFault(word.substring(0, word.length() - 1) + numbers, 0, 0);
            dueFault(word + "s" + numbers, 0, 0);
            dueFault(word + word + numbers, 0, 0);
            dueFault(word.toUpperCase() + numbers, 0, 0);
            dueFault("  " + word + "a" + numbers, 2, 0);
            String other = i == 2 ? "way 1" : "cut 1";
            dueFault(other + "; " + word + "z" + numbers, 7, 0);
        }
        dueFault("cut way 1", 4, 0);
        dueFault("flat 1 cut 1", 7, 0);
        dueFault("a 1", 0, 0);
        dueFault("z 1", 0, 0);
    }

    private static void theEndOfTheText() {
        C.sentence(7, "or the end (behind the last byte);");
        for (int i = 0; i < WORDS.length; i++) {
            dueFault(WORDS[i], WORDS[i].length(), 0);
            dueFault(WORDS[i] + "  ", WORDS[i].length() + 2, 0);
            String whole = clause(i, "1");
            dueFault(whole + ";", whole.length() + 1, 0);
            dueFault(whole + " ; ", whole.length() + 3, 0);
        }
        dueFault("flat 1", 6, 0);
        dueFault("flat 1 ", 7, 0);
        dueFault("ramp 1", 6, 0);
    }

    private static void theFirstAlongIt() {
        C.sentence(7, "FAULTS, the first along it,");
        dueFault("cut 0;cut x", 4, 1);
        dueFault("cut 1;cut 0;x", 6, 2);
        dueFault("cut x;way 0", 4, 0);
        dueFault("flat 0 0", 5, 1);
        dueFault("flat 0", 5, 1);
        dueFault("cut 1000x", 4, 1);
        dueFault(";;", 0, 0);
        dueFault("cut 1;;", 6, 0);
        dueFault("cut 1 1;cut 1", 6, 0);
    }

    private static void faultyOneLeavesTheTable() {
        C.sentence(7, "-2 - its FAULT (then that one stays).");
        String all = "flat 11 12;ramp 13 14;cut 15;way 16;raft 17;rope 18;earth 19";
        String[] wrong = {"flat 1 2;ramp 3 4;cut 5;way 6;raft 7;rope 8;earth 100", "flat 1 100", "cut 1;", "x", "way 1;way 1"};
        int[] faults = {Checks.fault(50, 1), Checks.fault(7, 1), Checks.fault(6, 0), Checks.fault(0, 0), Checks.fault(6, 2)};
        StoneWorks x = new StoneWorks();
        C.due("the first table", Checks.tableOf(x, all), 7);
        for (int i = 0; i < wrong.length; i++) {
            C.due("table of '" + wrong[i] + "'", Checks.tableOf(x, wrong[i]), faults[i]);
            dueNumbers("behind '" + wrong[i] + "'", x, 11, 12, 13, 14, 15, 16, 17, 18, 19);
        }
        StoneWorks y = new StoneWorks();
        Checks.tableOf(y, "cut 9;rope 0");
        dueNumbers("a fault in the very first", y, WITHOUT);
    }

    private static void withoutAClause() {
        C.sentence(7, "5 and 5 without");
        StoneWorks x = new StoneWorks();
        dueNumbers("a new object", x, WITHOUT);
        String all = "flat 11 12;ramp 13 14;cut 15;way 16;raft 17;rope 18;earth 19";
        for (int i = 0; i < WORDS.length; i++) {
            Checks.tableOf(x, all);
            // what an earlier TABLE said doesn't stay where a later one is silent
            C.due("one clause", Checks.tableOf(x, clause(i, "1")), 1);
            int told = 0;
            for (int n = 0; n < 9; n++) {
                told += x.count(20 + n) == WITHOUT[n] ? 0 : 1;
            }
            C.due("numbers that differ with " + WORDS[i], told, i < 2 ? 2 : 1);
        }
    }
}
