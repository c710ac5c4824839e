/** The boundary cases of promises 17 to 20: TALLIES, TRUE ones, and THE QUARREL. */
public final class EdgesOfTalliesTest {
    private static final Checks C = new Checks();
    private static final int MIN = Sites.MIN;
    private static final int MAX = Sites.MAX;

    public static void main(String[] args) {
        talliesAreFull();
        gangsOfTallies();
        daysOfTallies();
        stonesOfTallies();
        noSuchTally();
        firstAndLastDay();
        numberOfStones();
        byTheMarksNow();
        ofThatGang();
        noTallies();
        oneTally();
        sameDays();
        noneBelowZero();
        noMoreThanTheWhole();
        noLessThanTheParts();
        gangsApart();
        noMostOfStones();
        greatestGoesFirst();
        allTwenty();
        twentyWithinOneAnother();
        placesOfTheQuarrel();
        quarrelOfNow();
        C.finish();
    }

    /** TALLIES of one GANG: from, to, n of each. */
    private static StoneWorks told(int... rows) {
        StoneWorks x = new StoneWorks();
        for (int i = 0; i + 2 < rows.length; i += 3) {
            x.tally(0, rows[i], rows[i + 1], rows[i + 2]);
        }
        return x;
    }

    private static void dueQuarrel(String name, StoneWorks x, int... members) {
        C.due(name + ": quarrel()", x.quarrel(), members.length);
        for (int k = 0; k < members.length; k++) {
            C.due(name + ": quarrels(" + k + ")", x.quarrels(k), members[k]);
        }
        C.due(name + ": none behind the last", x.quarrels(members.length), -1);
    }

    // ---- promise 17

    private static void talliesAreFull() {
        C.sentence(17, "NONE: there are 20,");
        StoneWorks x = new StoneWorks();
        for (int t = 0; t < 20; t++) {
            C.due("tally", x.tally(t % 6, t, t, 1), t);
            C.due("how many", x.count(10), t + 1);
        }
        C.due("one more", x.tally(0, 0, 0, 1), -1);
        C.due("one more that would quarrel", x.tally(0, 0, 0, 2), -1);
        C.due("how many", x.count(10), 20);
        C.due("isTrue(20)", x.isTrue(20), -1);
        C.due("no quarrel by those refused", x.quarrel(), 0);
    }

    private static void gangsOfTallies() {
        C.sentence(17, "(GANGS 0 to 5, whether they are there or not).");
        StoneWorks x = new StoneWorks();
        for (int gang : new int[] {-1, 6, 7, MIN, MAX}) {
            C.due("tally of gang " + gang, x.tally(gang, 0, 1, 1), -1);
            C.due("how many", x.count(10), 0);
        }
        for (int gang = 0; gang < 6; gang++) {
            C.due("gang " + gang + " isn't there", x.tally(gang, 0, 1, 1), gang);
        }
        x.gang(5);
        C.due("gang 0 is there", x.tally(0, 0, 1, 1), 6);
        C.due("gang 1 isn't", x.tally(1, 0, 1, 1), 7);
    }

    private static void daysOfTallies() {
        C.sentence(17, "from a DAY to a DAY.");
        StoneWorks x = new StoneWorks();
        int[][] wrong = {{-1, 0}, {-1, -1}, {0, 3001}, {3001, 3001}, {1, 0}, {3000, 0}, {8, 7}, {MIN, 0}, {0, MIN}, {0, MAX}, {MAX, MAX},
            {MIN, MAX}};
        for (int[] w : wrong) {
            C.due("tally from " + w[0] + " to " + w[1], x.tally(0, w[0], w[1], 1), -1);
            C.due("how many", x.count(10), 0);
        }
        int[][] right = {{0, 0}, {0, 3000}, {3000, 3000}, {7, 7}, {7, 8}};
        for (int t = 0; t < right.length; t++) {
            C.due("tally from " + right[t][0] + " to " + right[t][1], x.tally(0, right[t][0], right[t][1], 0), t);
        }
        Sites.passTo(x, 3001);
        C.due("a tally at the end", x.tally(0, 0, 3000, 0), 5);
    }

    private static void stonesOfTallies() {
        C.sentence(17, "of a GANG that it laid n STONES (0 to 30)");
        StoneWorks x = new StoneWorks();
        for (int n : new int[] {-1, 31, 32, MIN, MAX}) {
            C.due("tally of " + n, x.tally(0, 0, 1, n), -1);
            C.due("how many", x.count(10), 0);
        }
        C.due("tally of 0", x.tally(0, 0, 1, 0), 0);
        C.due("tally of 30", x.tally(1, 0, 1, 30), 1);
    }

    // ---- promise 18

    private static void noSuchTally() {
        C.sentence(18, "NONE without it.");
        StoneWorks x = new StoneWorks();
        C.due("isTrue(0) of none", x.isTrue(0), -1);
        x.tally(0, 0, 0, 0);
        x.tally(0, 0, 0, 1);
        C.due("isTrue(0)", x.isTrue(0), 1);
        C.due("isTrue(1)", x.isTrue(1), 0);
        for (int t : new int[] {-1, 2, 19, 20, 21, MIN, MAX}) {
            C.due("isTrue(" + t + ")", x.isTrue(t), -1);
        }
    }

    /** GANG 0 has laid a STONE on each of DAYS 10 and 30, GANG 1 one on DAY 30; one is lost. */
    private static StoneWorks laid() {
        StoneWorks x = Sites.withRamp(Sites.QUICK, 1, 50, 50);
        for (int i = 0; i < 4; i++) {
            x.stone(10, 0);
        }
        Sites.bring(x, 0, 0, 4);
        Sites.passTo(x, 10);
        x.send(0, 0);
        x.pass(1);
        Sites.lose(x, 0, 3);
        Sites.bring(x, 0, 1, 4);
        Sites.bring(x, 0, 2, 4);
        Sites.passTo(x, 30);
        x.send(0, 1);
        x.send(1, 2);
        x.pass(1);
        return x;
    }

    private static void firstAndLastDay() {
        C.sentence(18, "TRUE if that is so by the MARKS now.");
        // from, to, STONES of GANG 0
        int[][] rows = {{10, 10, 1}, {0, 9, 0}, {0, 10, 1}, {9, 10, 1}, {10, 11, 1}, {11, 29, 0}, {11, 30, 1}, {10, 30, 2}, {10, 29, 1},
            {30, 30, 1}, {30, 3000, 1}, {31, 3000, 0}, {0, 3000, 2}};
        StoneWorks x = laid();
        C.due("laid on day 10", x.about(0, 3), 10);
        C.due("laid on day 30", x.about(1, 3), 30);
        for (int t = 0; t < rows.length; t++) {
            int[] row = rows[t];
            x.tally(0, row[0], row[1], row[2]);
            C.due("from " + row[0] + " to " + row[1] + ": " + row[2], x.isTrue(t), 1);
        }
    }

    private static void numberOfStones() {
        C.sentence(18, "1 if a TALLY is TRUE, 0 if not;");
        StoneWorks x = laid();
        int[] due = {0, 0, 1, 0};
        for (int n = 0; n < due.length; n++) {
            x.tally(0, 0, 3000, n);
            C.due("two stones, a tally of " + n, x.isTrue(n), due[n]);
        }
    }

    private static void byTheMarksNow() {
        C.sentence(18, "TRUE if that is so by the MARKS now.");
        StoneWorks x = Sites.withRamp(Sites.QUICK, 1, 50);
        x.stone(10, 0);
        x.tally(0, 0, 3000, 0);
        x.tally(0, 0, 3000, 1);
        Sites.bring(x, 0, 0, 4);
        x.send(0, 0);
        C.due("none, ahead of the day", x.isTrue(0), 1);
        C.due("one, ahead of the day", x.isTrue(1), 0);
        x.pass(1);
        C.due("none, behind it", x.isTrue(0), 0);
        C.due("one, behind it", x.isTrue(1), 1);
    }

    private static void ofThatGang() {
        C.sentence(18, "of a GANG that it laid n STONES");
        StoneWorks x = laid();
        int[] due = {2, 1, 0, 0, 0, 0};
        for (int gang = 0; gang < 6; gang++) {
            int t = x.tally(gang, 0, 3000, due[gang]);
            C.due("gang " + gang + " laid " + due[gang], x.isTrue(t), 1);
            t = x.tally(gang, 0, 3000, due[gang] + 1);
            C.due("gang " + gang + ", one more", x.isTrue(t), 0);
        }
    }

    // ---- promise 19

    private static void noTallies() {
        C.sentence(19, "how many TALLIES (0: none).");
        dueQuarrel("no tallies", new StoneWorks());
    }

    private static void oneTally() {
        C.sentence(19, "They QUARREL, if there are no numbers of STONES laid by each GANG on each DAY (0 or more) with which all are so:");
        dueQuarrel("none on one day", told(5, 5, 0));
        dueQuarrel("thirty on one day", told(3000, 3000, 30));
        // nothing has been laid: it isn't TRUE, but alone it doesn't QUARREL
        StoneWorks x = told(0, 0, 30);
        C.due("isTrue(0)", x.isTrue(0), 0);
        dueQuarrel("one that isn't true", x);
        dueQuarrel("the same one twice", told(0, 9, 4, 0, 9, 4));
    }

    private static void sameDays() {
        C.sentence(19, "They QUARREL, if there are no numbers of STONES laid by each GANG on each DAY (0 or more) with which all are so:");
        dueQuarrel("one day, 0 and 1", told(0, 0, 0, 0, 0, 1), 0, 1);
        dueQuarrel("the last day, 29 and 30", told(3000, 3000, 29, 3000, 3000, 30), 0, 1);
        dueQuarrel("all days, 7 and 8", told(0, 3000, 7, 0, 3000, 8), 0, 1);
        dueQuarrel("days side by side", told(0, 5, 1, 6, 9, 2));
        dueQuarrel("one day is of both", told(0, 5, 1, 5, 9, 2));
    }

    private static void noneBelowZero() {
        C.sentence(19, "(0 or more)");
        dueQuarrel("a day within tells more", told(3, 9, 4, 5, 5, 5), 0, 1);
        dueQuarrel("a day within tells as many", told(3, 9, 4, 5, 5, 4));
        dueQuarrel("as many, and one more beside it", told(3, 9, 4, 5, 5, 4, 9, 9, 1), 0, 1, 2);
        dueQuarrel("as many, and none beside it", told(3, 9, 4, 5, 5, 4, 9, 9, 0, 3, 4, 0));
        dueQuarrel("the same first day", told(3, 9, 4, 3, 8, 5), 0, 1);
        dueQuarrel("the same last day", told(3, 9, 4, 4, 9, 5), 0, 1);
        dueQuarrel("one day longer, on the left", told(3, 9, 4, 2, 9, 3), 0, 1);
        dueQuarrel("one day longer, on the right", told(3, 9, 4, 3, 10, 3), 0, 1);
    }

    private static void noMoreThanTheWhole() {
        C.sentence(19, "They QUARREL, if there are no numbers of STONES laid by each GANG on each DAY (0 or more) with which all are so:");
        dueQuarrel("two parts of the whole", told(0, 9, 5, 0, 4, 2, 5, 9, 3));
        dueQuarrel("two parts are more", told(0, 9, 5, 0, 4, 3, 5, 9, 3), 0, 1, 2);
        dueQuarrel("two parts are less", told(0, 9, 5, 0, 4, 2, 5, 9, 2), 0, 1, 2);
        dueQuarrel("a day between them may make it up", told(0, 9, 5, 0, 4, 2, 6, 9, 2));
        dueQuarrel("but can't take away", told(0, 9, 5, 0, 4, 3, 6, 9, 3), 0, 1, 2);
    }

    private static void noLessThanTheParts() {
        C.sentence(19, "They QUARREL, if there are no numbers of STONES laid by each GANG on each DAY (0 or more) with which all are so:");
        // two that overlap: the DAYS of both have 3 + 3 - 5 at least
        dueQuarrel("the days of both have one", told(0, 6, 3, 4, 9, 3, 0, 9, 5, 4, 6, 1));
        dueQuarrel("the days of both have none", told(0, 6, 3, 4, 9, 3, 0, 9, 5, 4, 6, 0), 0, 1, 2, 3);
        dueQuarrel("the days of both have all", told(0, 6, 3, 4, 9, 3, 0, 9, 3, 4, 6, 3));
    }

    private static void gangsApart() {
        C.sentence(19, "laid by each GANG on each DAY");
        StoneWorks x = new StoneWorks();
        for (int gang = 0; gang < 6; gang++) {
            x.tally(gang, 5, 5, gang);
        }
        dueQuarrel("six gangs, a number each", x);
        x.tally(5, 5, 5, 4);
        dueQuarrel("the last gang", x, 5, 6);
        x.tally(0, 5, 5, 1);
        dueQuarrel("the first gang, but it goes first", x, 5, 6);
    }

    private static void noMostOfStones() {
        C.sentence(19, "numbers of STONES laid by each GANG on each DAY (0 or more)");
        StoneWorks x = new StoneWorks();
        for (int t = 0; t < 20; t++) {
            x.tally(0, t, t, 30);
        }
        dueQuarrel("600 stones in all", x);
    }

    private static void greatestGoesFirst() {
        C.sentence(19, "THE QUARREL is what is left of all, if from the greatest number down each goes with which the rest QUARREL still.");
        dueQuarrel("three numbers of one day", told(0, 0, 1, 0, 0, 2, 0, 0, 3), 0, 1);
        dueQuarrel("the middle one is told twice", told(0, 0, 1, 0, 0, 2, 0, 0, 2), 0, 1);
        dueQuarrel("the first one is told twice", told(0, 0, 1, 0, 0, 1, 0, 0, 2), 0, 2);
        dueQuarrel("those that have no part go", told(9, 9, 1, 0, 0, 1, 8, 8, 1, 0, 0, 2, 7, 7, 1), 1, 3);
        dueQuarrel("two quarrels: the later one goes", told(0, 0, 1, 5, 5, 1, 5, 5, 2, 0, 0, 2), 1, 2);
        dueQuarrel("two quarrels, side by side", told(0, 0, 1, 0, 0, 2, 5, 5, 1, 5, 5, 2), 0, 1);
    }

    private static void allTwenty() {
        C.sentence(19, "TALLIES 0 to 19:");
        StoneWorks x = new StoneWorks();
        for (int t = 0; t < 19; t++) {
            x.tally(0, t, t, 1);
        }
        dueQuarrel("nineteen", x);
        x.tally(0, 0, 18, 20);
        dueQuarrel("twenty, the whole has one more", x, 0, 1, 2, 3, 4, 5, 6, 7, 8, 9, 10, 11, 12, 13, 14, 15, 16, 17, 18, 19);
        StoneWorks y = new StoneWorks();
        for (int t = 0; t < 19; t++) {
            y.tally(0, t, t, 1);
        }
        y.tally(0, 0, 18, 19);
        dueQuarrel("twenty that agree", y);
        StoneWorks z = new StoneWorks();
        for (int t = 0; t < 18; t++) {
            z.tally(1, t, t, 1);
        }
        z.tally(0, 0, 0, 1);
        z.tally(0, 0, 0, 0);
        dueQuarrel("the last two", z, 18, 19);
    }

    private static void twentyWithinOneAnother() {
        C.sentence(19, "TALLIES 0 to 19:");
        for (int innermost = 4; innermost <= 6; innermost++) {
            StoneWorks x = new StoneWorks();
            for (int t = 0; t < 19; t++) {
                x.tally(5, t, 3000 - t, 5);
            }
            x.tally(5, 19, 2981, innermost);
            if (innermost <= 5) {
                dueQuarrel("no more within than around, " + innermost, x);
            } else {
                dueQuarrel("the innermost has one more", x, 0, 19);
            }
        }
        StoneWorks y = new StoneWorks();
        for (int t = 0; t < 20; t++) {
            y.tally(5, 10 * t, 10 * t + 5, 30);
        }
        dueQuarrel("twenty with gaps between", y);
    }

    // ---- promise 20

    private static void placesOfTheQuarrel() {
        C.sentence(20, "The k-th of it, by numbers; NONE.");
        StoneWorks none = told(0, 0, 1);
        StoneWorks x = told(9, 9, 1, 0, 0, 1, 8, 8, 1, 0, 0, 2);
        for (int k : new int[] {-1, 2, 3, 4, 19, 20, 31, 32, 33, MIN, MAX}) {
            C.due("quarrels(" + k + ")", x.quarrels(k), -1);
            C.due("quarrels(" + k + ") of none", none.quarrels(k), -1);
        }
        C.due("quarrels(0) of none", none.quarrels(0), -1);
        C.due("quarrels(0) without tallies", new StoneWorks().quarrels(0), -1);
        C.due("quarrels(0)", x.quarrels(0), 1);
        C.due("quarrels(1)", x.quarrels(1), 3);
    }

    private static void quarrelOfNow() {
        C.sentence(20, "The k-th of it, by numbers; NONE.");
        StoneWorks x = told(0, 0, 1, 0, 0, 2);
        C.due("not asked ahead of it", x.quarrels(1), 1);
        StoneWorks y = told(0, 9, 3, 0, 4, 2);
        C.due("none yet", y.quarrels(0), -1);
        y.tally(0, 5, 9, 2);
        C.due("all three", y.quarrels(2), 2);
        y.tally(1, 0, 0, 0);
        C.due("a tally that has no part", y.quarrels(2), 2);
        C.due("nothing behind it", y.quarrels(3), -1);
    }
}
