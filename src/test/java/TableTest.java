/** Promises 5 to 7: the TAPE and the TABLE. */
public final class TableTest {
    private static final Checks C = new Checks();

    public static void main(String[] args) {
        feeding();
        ending();
        bytesInOrder();
        goodTexts();
        faults();
        faultsLeaveTheTable();
        longText();
        C.finish();
    }

    private static void feeding() {
        StoneWorks x = new StoneWorks();
        for (int n = 20; n <= 200; n += 20) {
            C.due("feed up to " + n, x.feed(-1, 0, 1, 2, 3), n);
        }
        C.due("feed beyond 200", x.feed(0, 0, 0, 0, 0), -1);
        C.due("count(9)", x.count(9), 200);
        C.due("end(181)", x.end(181), 181);
        C.due("feed of 20 behind 181", x.feed(0, 0, 0, 0, 0), -1);
        C.due("count(9)", x.count(9), 181);
        C.due("end(180)", x.end(180), 180);
        C.due("feed of 20 behind 180", x.feed(0, 0, 0, 0, 0), 200);
    }

    private static void ending() {
        StoneWorks x = new StoneWorks();
        C.due("end(0) of an empty tape", x.end(0), 0);
        C.due("end(1) of an empty tape", x.end(1), -1);
        x.feed(0, 0, 0, 0, 0);
        C.due("end(21)", x.end(21), -1);
        C.due("end(-1)", x.end(-1), -1);
        C.due("end(MIN)", x.end(Integer.MIN_VALUE), -1);
        C.due("end(MAX)", x.end(Integer.MAX_VALUE), -1);
        C.due("count(9)", x.count(9), 20);
        C.due("end(20)", x.end(20), 20);
        C.due("end(7)", x.end(7), 7);
        C.due("end(8)", x.end(8), -1);
        C.due("count(9)", x.count(9), 7);
    }

    private static void bytesInOrder() {
        StoneWorks x = new StoneWorks();
        // "earth 12   ;  way 9" and a blank: every number of the five tells bytes that count
        C.due("feed", x.feed(0x65617274, 0x68203132, 0x2020203b, 0x20207761, 0x79203920), 20);
        C.due("table()", x.table(), 2);
        C.due("earth", x.count(28), 12);
        C.due("way", x.count(25), 9);
        C.due("the tape is empty", x.count(9), 0);
        // what end() took away doesn't come back
        x.feed(0x63757420, 0x39393939, 0, 0, 0);
        x.end(5);
        x.feed(0x20202020, 0x20202020, 0x20202020, 0x20202020, 0x20202020);
        C.due("table() of two pieces", x.table(), 1);
        C.due("cut", x.count(24), 9);
    }

    private static void goodTexts() {
        String[] texts = {"", " ", "   ", "cut 1", " cut 1 ", "cut  1", "cut 99", "cut 099", "cut 001", "way 20", "raft 20", "rope 200",
            "earth 99", "flat 1 1", "flat 99 99", "ramp 1 99", "way 1;cut 2", "way 1 ; cut 2", "rope 1;raft 1;ramp 3 4;flat 5 6",
            "earth 1;rope 2;raft 3;way 4;cut 5;ramp 6 7;flat 8 9"};
        int[] clauses = {0, 0, 0, 1, 1, 1, 1, 1, 1, 1, 1, 1, 1, 1, 1, 1, 2, 2, 4, 7};
        for (int i = 0; i < texts.length; i++) {
            C.due("table of '" + texts[i] + "'", Checks.tableOf(new StoneWorks(), texts[i]), clauses[i]);
        }
        StoneWorks x = new StoneWorks();
        Checks.tableOf(x, texts[texts.length - 1]);
        int[] numbers = {8, 9, 6, 7, 5, 4, 3, 2, 1};
        for (int i = 0; i < numbers.length; i++) {
            C.due("number " + i, x.count(20 + i), numbers[i]);
        }
        Checks.tableOf(x, "cut 11");
        C.due("told", x.count(24), 11);
        C.due("as without", x.count(28), 10);
        C.due("as without", x.count(20), 5);
    }

    private static void faultAt(String text, int place, int kind) {
        C.due("table of '" + text + "'", Checks.tableOf(new StoneWorks(), text), Checks.fault(place, kind));
    }

    private static void faults() {
        faultAt("c", 0, 0);
        faultAt("cuts 5", 0, 0);
        faultAt("cutz 5", 0, 0);
        faultAt("cuta 5", 0, 0);
        faultAt("xut 5", 0, 0);
        faultAt("cux 5", 0, 0);
        faultAt("way 3;arth 5", 6, 0);
        faultAt("Cut 5", 0, 0);
        faultAt("cuT 5", 0, 0);
        faultAt("5", 0, 0);
        faultAt(";", 0, 0);
        faultAt(" ;cut 5", 1, 0);
        faultAt("\tcut 5", 0, 0);
        faultAt("\u00e9", 0, 0);
        faultAt("cut", 3, 0);
        faultAt("cut ", 4, 0);
        faultAt("cut x", 4, 0);
        faultAt("cut ;", 4, 0);
        faultAt("cut -1", 4, 0);
        faultAt("cut 5x", 5, 0);
        faultAt("cut 5 way 3", 6, 0);
        faultAt("cut 5;", 6, 0);
        faultAt("cut 5 ;  ", 9, 0);
        faultAt("cut 5;;way 3", 6, 0);
        faultAt("cut 5\u0000", 5, 0);
        faultAt("flat 5;way 3", 6, 0);
        faultAt("flat 5 5 5", 9, 0);
        faultAt("flat", 4, 0);
        faultAt("cut 0", 4, 1);
        faultAt("cut 000", 4, 1);
        faultAt("cut 100", 4, 1);
        faultAt("cut 0001", 4, 1);
        faultAt("cut 99999999999999999999", 4, 1);
        faultAt("cut 4294967297", 4, 1);
        faultAt("flat 0 5", 5, 1);
        faultAt("flat 5 0", 7, 1);
        faultAt("flat 100 x", 5, 1);
        faultAt("flat 5 100", 7, 1);
        faultAt("ramp 99 100", 8, 1);
        faultAt("way 21", 4, 1);
        faultAt("raft 21", 5, 1);
        faultAt("rope 201", 5, 1);
        faultAt("rope 0", 5, 1);
        faultAt("earth 100", 6, 1);
        faultAt("cut 5;cut", 6, 2);
        faultAt("cut 5; cut 0", 7, 2);
        faultAt("cut 5;way 3;flat 1 1;cut 5", 21, 2);
        faultAt("cut 5;way 3;raft 3;rope 3;earth 3;flat 3 3;ramp 3 3;way 3", 52, 2);
        faultAt("cut 0;cut 0", 4, 1);
    }

    private static void faultsLeaveTheTable() {
        StoneWorks x = new StoneWorks();
        Checks.tableOf(x, "cut 7;rope 8");
        C.due("fault", Checks.tableOf(x, "cut 9;rope 300"), Checks.fault(11, 1));
        C.due("cut stays", x.count(24), 7);
        C.due("rope stays", x.count(27), 8);
        C.due("the tape is empty then, too", x.count(9), 0);
        C.due("an empty tape is a table of none", x.table(), 0);
        C.due("all as without", x.count(24), 2);
        C.due("all as without", x.count(27), 200);
    }

    private static void longText() {
        StoneWorks x = new StoneWorks();
        String text = "way 9" + " ".repeat(189) + ";cut 8";
        C.due("length", text.length(), 200);
        C.due("200 bytes", Checks.tableOf(x, text), 2);
        C.due("cut", x.count(24), 8);
        C.due("fault behind byte 199", Checks.tableOf(x, "way 9" + " ".repeat(194) + ";"), Checks.fault(200, 0));
        C.due("200 digits", Checks.tableOf(x, "way " + "1".repeat(196)), Checks.fault(4, 1));
    }
}
