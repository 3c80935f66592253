/** Promises 7 and 8: kinds and CAUSES, and which kinds a trial takes. */
final class FailureTest extends TestBase {
    public static void main(String[] args) {
        testKinds();
        testWhatIsTaken();
        testCauses();
        testNoTakerNoCause();
        testTakerIsAtWorkNoMore();
        testTakerOfWaitingRoutine();
        testLostFailure();
        testLatestOnly();
        close();
    }

    private static final int[][] FAILING = {
        {THROW, 4, 0, 0}, {THROW, 5, 0, 0}, {THROW, -2, 0, 0}, {THROW, 7, 0, 0},
        {DIVIDE, 0, 0, 0}, {LOOK, 8 * LONGS, 1, 0}, {THROW_NOTHING, 3, 3, 3}, {MAKE, 0, 1, 0},
        {CAST, 1, SAW, 0}, {PUT, 8 * THINGS, 0, 1}
    };

    /** In this HOUSE each of the steps above fails with the kind that is its place. */
    private static Stair stairThatFails() {
        return ran(SET, 2, 4, 0, MAKE, 8 * LONGS, 2, 0, MAKE, 8 * THINGS, 2, 1, SET, 1, -1, 0, THING, 1, HAMMER, 0);
    }

    private static void testKinds() {
        for (int kind = 0; kind < FAILING.length; kind++) {
            Stair stair = stairThatFails();
            again(stair, FAILING[kind]);
            dueFailure("kind " + kind, stair, kind);
        }
    }

    private static boolean takes(int bit, int kind) {
        return bit == 10 || bit == kind || kind == FIRE && bit == ALARM || kind == FLASH && (bit == ALARM || bit == FIRE);
    }

    private static void testWhatIsTaken() {
        for (int kind = 0; kind < FAILING.length; kind++) {
            int[] step = FAILING[kind];
            for (int bit = 0; bit < 32; bit++) {
                Stair stair = stairThatFails();
                int taken = takes(bit, kind) ? 1 : 0;
                int took = again(stair, OPEN, 1 << bit, 0, 0, step[0], step[1], step[2], step[3], TAKER, 0, 0, 0,
                    TELL, 2, 0, 0, CLOSE, 0, 0, 0, TELL, 2, 0, 0);
                String what = "kind " + kind + ", bit " + bit;
                due(what + ": taken", stair.status(7), taken);
                due(what + ": steps", took, 2 + 2 * taken);
                due(what + ": kind", stair.kind(), taken == 1 ? -1 : kind);
                rewrite(stair, OPEN, ~(1 << bit), 0, 0, step[0], step[1], step[2], step[3], TAKER, 0, 0, 0);
                stair.run(0, 10);
                due(what + ": all others take it", stair.kind(), -1);
            }
        }
    }

    private static void testCauses() {
        Stair stair = ran(OPEN, ALL, 0, 0, DIVIDE, 0, 0, 0, TAKER, 0, 0, 0,
            OPEN, ALL, 0, 0, INSTEAD, FIRE, 0, 0, TAKER, 0, 0, 0,
            OPEN, ALL, 0, 0, INSTEAD, 4 + THEFT, 0, 0, TAKER, 0, 0, 0, INSTEAD, FLASH, 0, 0);
        dueFailure("three CAUSES", stair, FLASH, THEFT, FIRE, DIVISION);
        due("far CAUSE", stair.cause(Integer.MAX_VALUE), -1);
        due("CAUSE at the least", stair.cause(Integer.MIN_VALUE), -1);
        again(stair, OPEN, ALL, 0, 0, THROW, FIRE, 0, 0, TAKER, 0, 0, 0, THROW, FLASH, 0, 0);
        dueFailure("THROW has none", stair, FLASH);
        again(stair, OPEN, ALL, 0, 0, THROW, FIRE, 0, 0, TAKER, 0, 0, 0, THROW_NOTHING, 0, 0, 0);
        dueFailure("THROW NOTHING has none", stair, NONE);
        again(stair, OPEN, ALL, 0, 0, THROW, FIRE, 0, 0, TAKER, 0, 0, 0, REST, 0, 0, 0);
        dueFailure("the machine's have none", stair, DIVISION);
    }

    private static void testNoTakerNoCause() {
        dueFailure("no trial", ran(INSTEAD, ALARM, 0, 0), ALARM);
        dueFailure("in a BODY", ran(OPEN, 0, 0, 0, INSTEAD, THEFT, 0, 0, TAKER, 0, 0, 0), THEFT);
        dueFailure("in a FINISH alone", ran(OPEN, 0, 0, 0, FINISH, 0, 0, 0, INSTEAD, THEFT, 0, 0), THEFT);
    }

    private static void testTakerIsAtWorkNoMore() {
        dueFailure("in the FINISH behind its TAKER", ran(OPEN, ALL, 0, 0, THROW, 0, 0, 0, TAKER, 0, 0, 0,
            FINISH, 0, 0, 0, INSTEAD, FIRE, 0, 0), FIRE);
        dueFailure("behind the trial", ran(OPEN, ALL, 0, 0, THROW, 0, 0, 0, TAKER, 0, 0, 0, CLOSE, 0, 0, 0,
            INSTEAD, FIRE, 0, 0), FIRE);
        dueFailure("in the FINISH, of the TAKER around", ran(OPEN, ALL, 0, 0, THROW, THEFT, 0, 0, TAKER, 0, 0, 0,
            OPEN, ALL, 0, 0, THROW, ALARM, 0, 0, TAKER, 0, 0, 0, FINISH, 0, 0, 0, INSTEAD, FIRE, 0, 0), FIRE, THEFT);
        dueFailure("in a LOOP and an IF of the TAKER", ran(SET, 1, 1, 0, OPEN, ALL, 0, 0, THROW, THEFT, 0, 0,
            TAKER, 0, 0, 0, LOOP, 1, 0, 0, SET, 1, 1, 0, IF, 0, 1, 0, INSTEAD, FIRE, 0, 0), FIRE, THEFT);
    }

    private static void testTakerOfWaitingRoutine() {
        Stair stair = new Stair();
        add(stair, ROUTINE, 0, 0, 0, OPEN, ALL, 0, 0, THROW, THEFT, 0, 0, TAKER, 0, 0, 0, ROUTINE, 1, 0, 1,
            ROUTINE, 0, 0, 0, INSTEAD, FLASH, 0, 0);
        stair.run(0, 10);
        dueFailure("TAKER of the routine that waits", stair, FLASH, THEFT);
        stair.run(1, 10);
        dueFailure("no TAKER", stair, FLASH);
    }

    private static void testLostFailure() {
        dueFailure("lost by a finishing part", ran(OPEN, 0, 0, 0, THROW, THEFT, 0, 0, FINISH, 0, 0, 0,
            DIVIDE, 0, 0, 0), DIVISION);
        dueFailure("lost with its CAUSES", ran(OPEN, ALL, 0, 0, THROW, THEFT, 0, 0, TAKER, 0, 0, 0,
            OPEN, 0, 0, 0, INSTEAD, FIRE, 0, 0, FINISH, 0, 0, 0, THROW, FLASH, 0, 0, CLOSE, 0, 0, 0), FLASH);
        dueFailure("kept by a finishing part that takes one of its own", ran(OPEN, ALL, 0, 0, THROW, THEFT, 0, 0,
            TAKER, 0, 0, 0, INSTEAD, FIRE, 0, 0, FINISH, 0, 0, 0, OPEN, ALL, 0, 0, THROW, ALARM, 0, 0,
            TAKER, 0, 0, 0, CLOSE, 0, 0, 0, CLOSE, 0, 0, 0), FIRE, THEFT);
    }

    private static void testLatestOnly() {
        Stair stair = ran(OPEN, ALL, 0, 0, THROW, THEFT, 0, 0, TAKER, 0, 0, 0, INSTEAD, FIRE, 0, 0);
        again(stair, TELL, 0, 0, 0);
        dueEnd("the latest run", stair, PLAINLY, 0);
        due("taken in the latest run", stair.status(7), 0);
    }
}
