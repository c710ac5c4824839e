/** Objects brought to some state, for the tests. */
final class Sites {
    /** Each WORK takes a DAY, if the GANG is large enough. */
    static final String QUICK = "cut 1;way 1;raft 1;earth 1";
    static final int MIN = Integer.MIN_VALUE;
    static final int MAX = Integer.MAX_VALUE;

    private Sites() {
    }

    /** As much FOOD as there may be from DAY 0 on, and these GANGS. */
    static StoneWorks fed(int... men) {
        StoneWorks x = new StoneWorks();
        for (int i = 0; i < 10; i++) {
            x.boat(0, 1000000);
        }
        for (int m : men) {
            x.gang(m);
        }
        return x;
    }

    /** The same with the river HIGH on every DAY, and a TABLE. */
    static StoneWorks works(String table, int... men) {
        StoneWorks x = fed(men);
        x.spell(0, 0, 3000);
        Checks.tableOf(x, table);
        return x;
    }

    /** The same with a RAMP that GANG 0, by itself, has raised. */
    static StoneWorks withRamp(String table, int courses, int... men) {
        StoneWorks x = onLowRiver(table, courses, men);
        x.spell(0, 0, 3000);
        return x;
    }

    /** FOOD, GANGS, a RAMP and a TABLE, but the river is HIGH on no DAY. */
    static StoneWorks onLowRiver(String table, int courses, int... men) {
        StoneWorks x = fed(men);
        Checks.tableOf(x, "earth 1");
        raiseRamp(x, 0, courses);
        Checks.tableOf(x, table);
        return x;
    }

    static void raiseRamp(StoneWorks x, int gang, int courses) {
        for (int days = 0; days < 60 && x.count(4) < courses; days++) {
            x.raise(gang);
            x.pass(1);
        }
    }

    /** Brings a STONE to a state (up to laid) by one GANG. */
    static void bring(StoneWorks x, int gang, int stone, int state) {
        for (int days = 0; days < 60 && x.about(stone, 0) < state; days++) {
            x.send(gang, stone);
            x.pass(1);
        }
    }

    /** A STONE that is at the quay is lost. */
    static void lose(StoneWorks x, int gang, int stone) {
        bring(x, gang, stone, 2);
        x.send(gang, stone);
        x.callOff(gang);
    }

    static void passTo(StoneWorks x, int day) {
        for (int left = day - x.count(0); left > 0; left -= 400) {
            x.pass(Math.min(400, left));
        }
    }
}
