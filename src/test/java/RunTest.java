/** Promises 4, 5, 6, 11 and 12: runs, their ends, SPENT and TOO DEEP. */
final class RunTest extends TestBase {
    public static void main(String[] args) {
        testRefusals();
        testRefusedLeavesAll();
        testAllSteps();
        testEnds();
        testReturnedValue();
        testSpent();
        testSpentInFinish();
        testWhatTakesSteps();
        testDepth();
        testTooDeepByCalls();
        testTooDeepByBlocks();
        testTwoHundredOpen();
        testSpentAheadOfTooDeep();
        testMissingRoutineAtTheEdge();
        testStatus();
        close();
    }

    private static void testRefusals() {
        Stair stair = new Stair();
        due("no routine", stair.run(0, 0), -1);
        add(stair, TELL, 0, 0, 0, ROUTINE, 0, 0, 1);
        due("a CALL is no MARK", stair.run(0, 1), -1);
        add(stair, ROUTINE, 0, 0, -2, ROUTINE, 0, 0, 4);
        due("routines", stair.status(1), 2);
        due("routine -1", stair.run(-1, 1), -1);
        due("routine 2", stair.run(2, 1), -1);
        due("routine least", stair.run(Integer.MIN_VALUE, 1), -1);
        due("routine most", stair.run(Integer.MAX_VALUE, 0), -1);
        due("n 0", stair.run(0, 0), -2);
        due("n -1", stair.run(0, -1), -2);
        due("n least", stair.run(1, Integer.MIN_VALUE), -2);
        due("n 1001", stair.run(1, 1001), -2);
        due("n most", stair.run(1, Integer.MAX_VALUE), -2);
        due("n 1", stair.run(0, 1), 0);
        due("n 1000", stair.run(1, 1000), 0);
        due("runs", stair.status(3), 2);
    }

    private static void testRefusedLeavesAll() {
        Stair stair = ran(SET, 1, 3, 0, TELL, 1, 0, 0, RETURN, 1, 0, 0);
        due("refused", stair.run(1, 10), -1);
        due("refused", stair.run(0, 0), -2);
        dueEnd("after refusals", stair, BY_RETURN, 3);
        dueOutputs("after refusals", stair, 3);
        due("steps of all runs", stair.status(2), 3);
        due("runs", stair.status(3), 1);
        due("depth", stair.depth(), 1);
    }

    private static void testAllSteps() {
        Stair stair = new Stair();
        add(stair, ROUTINE, 0, 0, 0, SET, 0, Integer.MAX_VALUE, 0, LOOP, 0, 0, 0, ROUTINE, 0, 0, 0, TELL, 0, 0, 0);
        for (int i = 0; i < 7; i++) {
            due("run", stair.run(0, 1000), 1000);
        }
        due("run", stair.run(0, 999), 999);
        due("steps so far", stair.status(2), 7999);
        due("2 more", stair.run(0, 2), -3);
        due("1000 more", stair.run(1, 1000), -3);
        due("1001 more", stair.run(1, 1001), -2);
        due("no routine", stair.run(2, 1000), -1);
        due("refused: ended", stair.end(), SPENT);
        due("1 more", stair.run(1, 1), 1);
        due("ended", stair.end(), PLAINLY);
        due("none more", stair.run(1, 1), -3);
        due("steps of all", stair.status(2), 8000);
        due("runs", stair.status(3), 9);
    }

    private static void testEnds() {
        dueEnd("empty", ran(), PLAINLY, 0);
        due("empty: depth", ran().depth(), 1);
        dueEnd("plainly", ran(SET, 1, 5, 0), PLAINLY, 0);
        dueEnd("RETURN", ran(SET, 1, 5, 0, RETURN, 1, 0, 0, TELL, 1, 0, 0), BY_RETURN, 5);
        dueEnd("BREAK", ran(SET, 0, 5, 0, BREAK, 0, 0, 0, TELL, 1, 0, 0), BY_RETURN, 0);
        dueEnd("AGAIN", ran(SET, 0, 5, 0, AGAIN, 0, 0, 0, TELL, 1, 0, 0), BY_RETURN, 0);
        dueFailure("failed", ran(SET, 0, 5, 0, THROW, THEFT, 0, 0), THEFT);
        Stair stair = ran(SET, 1, 5, 0, RETURN, 1, 0, 0);
        again(stair, SET, 1, 6, 0);
        dueEnd("plainly after RETURN", stair, PLAINLY, 0);
        again(stair, THROW_NOTHING, 0, 0, 0);
        dueFailure("failed after plainly", stair, NONE);
        again(stair, RETURN, 1, 0, 0);
        dueEnd("RETURN after failure", stair, BY_RETURN, 6);
    }

    private static void testReturnedValue() {
        dueEnd("value as it was", ran(SET, 1, -5, 0, OPEN, 0, 0, 0, RETURN, 1, 0, 0, FINISH, 0, 0, 0, SET, 1, 9, 0,
            CLOSE, 0, 0, 0), BY_RETURN, -5);
        dueEnd("of NUMBER a & 7", ran(SET, 1, 4, 0, RETURN, 9, 0, 0), BY_RETURN, 4);
        dueEnd("failed after RETURN: none", ranToPlain(), PLAINLY, 0);
    }

    private static Stair ranToPlain() {
        return ran(SET, 1, 4, 0, OPEN, ALL, 0, 0,
            OPEN, 0, 0, 0, RETURN, 1, 0, 0, FINISH, 0, 0, 0, THROW, 0, 0, 0, CLOSE, 0, 0, 0,
            TAKER, 0, 0, 0, CLOSE, 0, 0, 0);
    }

    private static void testSpent() {
        Stair stair = new Stair();
        add(stair, ROUTINE, 0, 0, 0, SET, 1, 5, 0, OPEN, ALL, 0, 0, SET, 2, 6, 0, SET, 3, 7, 0,
            TAKER, 0, 0, 0, TELL, 1, 0, 0, FINISH, 0, 0, 0, TELL, 1, 0, 0, CLOSE, 0, 0, 0);
        due("run of 3", stair.run(0, 3), 3);
        dueEnd("run of 3", stair, SPENT, 0);
        dueOutputs("run of 3", stair);
        dueFinished("run of 3", stair);
        due("run of 3: number 2", stair.number(2), 6);
        due("run of 3: number 3", stair.number(3), 0);
        due("run of 3: taken", stair.status(7), 0);
        due("run of 5", stair.run(0, 5), 5);
        dueEnd("run of 5", stair, PLAINLY, 0);
        dueFinished("run of 5", stair, 2);
        due("run of 6", stair.run(0, 6), 5);
        rewrite(stair, SET, 1, 5, 0, RETURN, 1, 0, 0);
        due("run of 1", stair.run(0, 1), 1);
        dueEnd("run of 1", stair, SPENT, 0);
        due("run of 2", stair.run(0, 2), 2);
        dueEnd("run of 2", stair, BY_RETURN, 5);
    }

    private static void testSpentInFinish() {
        Stair stair = new Stair();
        add(stair, ROUTINE, 0, 0, 0, OPEN, ALL, 0, 0, THROW, 0, 0, 0, TAKER, 0, 0, 0, FINISH, 0, 0, 0, TELL, 1, 0, 0,
            CLOSE, 0, 0, 0, TELL, 1, 0, 0);
        due("run of 2", stair.run(0, 2), 2);
        dueEnd("run of 2", stair, SPENT, 0);
        dueFinished("run of 2: begun, and SPENT in it", stair, 1);
        due("run of 2: taken", stair.status(7), 1);
        due("run of 3", stair.run(0, 3), 3);
        dueEnd("run of 3", stair, SPENT, 0);
        dueOutputs("run of 3", stair, 0);
    }

    private static void testWhatTakesSteps() {
        Stair stair = new Stair();
        due("LOOP looks four times", again(stair, SET, 1, 3, 0, LOOP, 1, 0, 0, END, 0, 0, 0), 5);
        due("LOOP looks once", again(stair, LOOP, 0, 0, 0, TELL, 0, 0, 0, END, 0, 0, 0), 1);
        due("IF", again(stair, IF, 0, 0, 0, TELL, 0, 0, 0, END, 0, 0, 0), 1);
        due("IF that holds", again(stair, SET, 2, 1, 0, IF, 0, 2, 0, TELL, 0, 0, 0, END, 0, 0, 0), 3);
        due("OPEN", again(stair, OPEN, 0, 0, 0, TAKER, 0, 0, 0, FINISH, 0, 0, 0, CLOSE, 0, 0, 0), 1);
        due("those of no BLOCK", again(stair, TAKER, 0, 0, 0, FINISH, 0, 0, 0, CLOSE, 0, 0, 0, END, 0, 0, 0), 4);
        due("those of other BLOCKS", again(stair, OPEN, 0, 0, 0, END, 0, 0, 0, CLOSE, 0, 0, 0,
            SET, 2, 1, 0, IF, 0, 2, 0, TAKER, 0, 0, 0, FINISH, 0, 0, 0, CLOSE, 0, 0, 0, END, 0, 0, 0,
            TELL, 0, 0, 0), 8);
        dueOutputs("behind them", stair, 0);
        due("second ones", again(stair, OPEN, ALL, 0, 0, THROW, 0, 0, 0, TAKER, 0, 0, 0, TAKER, 0, 0, 0,
            FINISH, 0, 0, 0, FINISH, 0, 0, 0, TAKER, 0, 0, 0, CLOSE, 0, 0, 0, TELL, 0, 0, 0), 6);
        dueEnd("second ones", stair, PLAINLY, 0);
        stair.wipe();
        add(stair, ROUTINE, 0, 0, 0, ROUTINE, 1, 2, 1, ROUTINE, 0, 0, 0);
        due("CALL", stair.run(0, 10), 1);
        due("CALL of one", stair.run(0, 1), 1);
        dueEnd("CALL of one", stair, PLAINLY, 0);
    }

    private static void testDepth() {
        Stair stair = ran(TELL, 0, 0, 0);
        due("a routine", stair.depth(), 1);
        again(stair, IF, 0, 0, 0, END, 0, 0, 0);
        due("an IF that does not hold", stair.depth(), 2);
        again(stair, LOOP, 0, 0, 0, END, 0, 0, 0);
        due("a LOOP that only looks", stair.depth(), 2);
        again(stair, OPEN, 0, 0, 0, CLOSE, 0, 0, 0, OPEN, 0, 0, 0, CLOSE, 0, 0, 0);
        due("two trials, one behind the other", stair.depth(), 2);
        again(stair, OPEN, 0, 0, 0, FINISH, 0, 0, 0, OPEN, 0, 0, 0, CLOSE, 0, 0, 0, CLOSE, 0, 0, 0);
        due("OPEN while it is finished", stair.depth(), 3);
        again(stair, OPEN, ALL, 0, 0, OPEN, 0, 0, 0, OPEN, 0, 0, 0, THROW, 0, 0, 0, CLOSE, 0, 0, 0, CLOSE, 0, 0, 0,
            TAKER, 0, 0, 0, IF, 0, 0, 0, END, 0, 0, 0, CLOSE, 0, 0, 0);
        due("failed ones are OPEN no more", stair.depth(), 4);
        stair.wipe();
        add(stair, ROUTINE, 0, 0, 0, ROUTINE, 1, 0, 1, ROUTINE, 1, 0, 1, ROUTINE, 0, 0, 0, OPEN, 0, 0, 0);
        stair.run(0, 10);
        due("a CALL", stair.depth(), 3);
        stair.run(1, 10);
        due("the latest run's", stair.depth(), 2);
    }

    private static void testTooDeepByCalls() {
        Stair stair = new Stair();
        add(stair, ROUTINE, 0, 0, 0, OPEN, ALL, 0, 0, ADD, 1, 1, 2, ROUTINE, 0, 0, 1, TAKER, 0, 0, 0, TELL, 0, 0, 0,
            FINISH, 0, 0, 0, TELL, 0, 0, 0, CLOSE, 0, 0, 0);
        due("steps", stair.run(0, 1000), 300);
        dueEnd("TOO DEEP", stair, TOO_DEEP, 0);
        due("depth", stair.depth(), 200);
        due("taken", stair.status(7), 0);
        dueOutputs("TOO DEEP", stair);
        dueFinished("TOO DEEP", stair);
        due("run again", stair.run(0, 300), 300);
        due("the 300th step is taken", stair.end(), TOO_DEEP);
        due("run again", stair.run(0, 299), 299);
        due("and is one too many", stair.end(), SPENT);
    }

    private static Stair nested(int blocks, int op) {
        Stair stair = new Stair();
        add(stair, ROUTINE, 0, 0, 0, SET, 1, 1000, 0);
        for (int i = 0; i < blocks; i++) {
            add(stair, op, op == IF ? 2 : 1, 1, 0);
        }
        return stair;
    }

    private static void testTooDeepByBlocks() {
        int[] ops = {OPEN, LOOP, IF};
        for (int op : ops) {
            Stair stair = nested(200, op);
            due("steps of " + op, stair.run(0, 1000), 201);
            dueEnd("TOO DEEP by " + op, stair, TOO_DEEP, 0);
            due("depth of " + op, stair.depth(), 200);
            due("the number of a LOOP that is not OPEN", stair.number(1), op == LOOP ? 801 : 1000);
        }
        Stair stair = nested(199, OPEN);
        add(stair, IF, 0, 0, 0);
        stair.run(0, 1000);
        due("IF that would not hold", stair.end(), TOO_DEEP);
        stair = nested(199, OPEN);
        add(stair, LOOP, 0, 0, 0);
        stair.run(0, 1000);
        due("LOOP that would only look", stair.end(), TOO_DEEP);
    }

    private static void testTwoHundredOpen() {
        Stair stair = nested(199, OPEN);
        add(stair, TELL, 1, 0, 0);
        due("steps", stair.run(0, 1000), 201);
        dueEnd("200 are not TOO DEEP", stair, PLAINLY, 0);
        dueOutputs("200 OPEN", stair, 1000);
        due("depth", stair.depth(), 200);
    }

    private static void testSpentAheadOfTooDeep() {
        Stair stair = nested(200, OPEN);
        due("steps", stair.run(0, 200), 200);
        dueEnd("no step for the 201st", stair, SPENT, 0);
        due("depth", stair.depth(), 200);
    }

    private static void testMissingRoutineAtTheEdge() {
        Stair stair = nested(199, IF);
        add(stair, ROUTINE, 7, 0, 1);
        due("steps", stair.run(0, 1000), 201);
        dueFailure("CALL of none at 200 OPEN", stair, NONE);
    }

    private static void testStatus() {
        Stair stair = new Stair();
        add(stair, ROUTINE, 0, 0, 0, OPEN, ALL, 0, 0, OPEN, ALL, 0, 0, THROW, 2, 0, 0, TAKER, 0, 0, 0, TELL, 0, 0, 0,
            INSTEAD, 3, 0, 0, FINISH, 0, 0, 0, CLOSE, 0, 0, 0, TAKER, 0, 0, 0, INSTEAD, 1, 0, 0, FINISH, 0, 0, 0,
            CLOSE, 0, 0, 0, ROUTINE, 0, 0, 2);
        stair.run(0, 100);
        int[] due = {14, 2, 6, 1, 1, 2, 2, 2};
        for (int what = 0; what < 8; what++) {
            due("status " + what, stair.status(what), due[what]);
        }
        int[] others = {-1, 8, Integer.MIN_VALUE, Integer.MAX_VALUE};
        for (int what : others) {
            due("status " + what, stair.status(what), -1);
        }
        stair.run(1, 100);
        int[] then = {14, 2, 6, 2, 0, 0, 0, 0};
        for (int what = 0; what < 8; what++) {
            due("then status " + what, stair.status(what), then[what]);
        }
    }
}
