/** LOOP, IF, BREAK, AGAIN, RETURN, CALL, and what belongs to which BLOCK. */
final class BlockTest extends TestBase {
    public static void main(String[] args) {
        testLoop();
        testLoopNumberIsAlive();
        testLeavingLoops();
        testIf();
        testInnermost();
        testRoutines();
        testCallValue();
        testCallFails();
        testLoopsOfOtherRoutines();
        close();
    }

    private static void testLoop() {
        Stair stair = ran(SET, 1, 3, 0, LOOP, 9, 0, 0, TELL, 1, 0, 0, END, 0, 0, 0, TELL, 1, 0, 0);
        dueOutputs("counts down", stair, 2, 1, 0, 0);
        again(stair, SET, 1, -3, 0, LOOP, 1, 0, 0, TELL, 1, 0, 0, END, 0, 0, 0, TELL, 1, 0, 0);
        dueOutputs("below 0", stair, -3);
    }

    private static void testLoopNumberIsAlive() {
        Stair stair = ran(SET, 1, 9, 0, SET, 2, 4, 0, LOOP, 1, 0, 0, LESS, 1, 1, 2, TELL, 1, 0, 0, END, 0, 0, 0,
            TELL, 1, 0, 0);
        dueOutputs("changed inside", stair, 4, -1, -1);
    }

    private static void testLeavingLoops() {
        Stair stair = ran(SET, 1, 2, 0, LOOP, 1, 0, 0, SET, 2, 2, 0, LOOP, 2, 0, 0, TELL, 2, 0, 0,
            BREAK, 0, 0, 0, TELL, 7, 0, 0, END, 0, 0, 0, SET, 3, 9, 0, TELL, 3, 0, 0, END, 0, 0, 0);
        dueOutputs("BREAK leaves the inner one", stair, 1, 9, 1, 9);
        again(stair, SET, 1, 2, 0, LOOP, 1, 0, 0, TELL, 1, 0, 0, AGAIN, 0, 0, 0, TELL, 7, 0, 0, END, 0, 0, 0,
            TELL, 3, 0, 0);
        dueOutputs("AGAIN looks again", stair, 1, 0, 9);
        again(stair, SET, 1, 2, 0, LOOP, 1, 0, 0, RETURN, 1, 0, 0, END, 0, 0, 0, TELL, 3, 0, 0);
        dueEnd("RETURN", stair, BY_RETURN, 1);
        again(stair, SET, 1, 2, 0, LOOP, 1, 0, 0, THROW, 1, 0, 0, END, 0, 0, 0, TELL, 3, 0, 0);
        dueFailure("a failure", stair, FIRE);
    }

    private static void testIf() {
        long[][] pairs = {{-1, 0, 1}, {0, 0, 0}, {1, 0, 0}, {Integer.MIN_VALUE, Integer.MAX_VALUE, 1},
            {Integer.MAX_VALUE, Integer.MIN_VALUE, 0}};
        for (long[] pair : pairs) {
            Stair stair = ran(SET, 1, (int) pair[0], 0, SET, 2, (int) pair[1], 0, IF, 9, 10, 0, TELL, 3, 0, 0,
                END, 0, 0, 0);
            due("IF " + pair[0] + " < " + pair[1], stair.status(4), pair[2]);
        }
        Stair stair = ran(SET, 2, 1, 0, IF, 1, 2, 0, RETURN, 2, 0, 0, END, 0, 0, 0, TELL, 3, 0, 0);
        dueEnd("what comes of its part comes of it", stair, BY_RETURN, 1);
        again(stair, SET, 2, 1, 0, IF, 1, 2, 0, THROW, 2, 0, 0, END, 0, 0, 0, TELL, 3, 0, 0);
        dueFailure("what comes of its part comes of it", stair, FLASH);
        again(stair, SET, 2, 5, 0, LOOP, 2, 0, 0, IF, 1, 2, 0, BREAK, 0, 0, 0, END, 0, 0, 0, END, 0, 0, 0,
            TELL, 2, 0, 0);
        dueOutputs("a BREAK in an IF", stair, 4);
    }

    private static void testInnermost() {
        Stair stair = ran(SET, 1, 2, 0, LOOP, 1, 0, 0, CLOSE, 0, 0, 0, TELL, 1, 0, 0, END, 0, 0, 0,
            SET, 2, 8, 0, TELL, 2, 0, 0);
        dueOutputs("a CLOSE ends no LOOP", stair, 1, 0, 8);
        again(stair, OPEN, ALL, 0, 0, END, 0, 0, 0, THROW, 0, 0, 0, TAKER, 0, 0, 0, TELL, 2, 0, 0, CLOSE, 0, 0, 0);
        dueOutputs("an END ends no trial", stair, 8);
        again(stair, SET, 1, 1, 0, OPEN, ALL, 0, 0, LOOP, 1, 0, 0, CLOSE, 0, 0, 0, TAKER, 0, 0, 0, FINISH, 0, 0, 0,
            END, 0, 0, 0, THROW, 0, 0, 0, TAKER, 0, 0, 0, TELL, 2, 0, 0, CLOSE, 0, 0, 0, TELL, 1, 0, 0);
        dueOutputs("behind the LOOP's END the trial is INNERMOST again", stair, 8, 0);
        again(stair, SET, 1, 1, 0, IF, 0, 1, 0, OPEN, 0, 0, 0, CLOSE, 0, 0, 0, CLOSE, 0, 0, 0, END, 0, 0, 0,
            END, 0, 0, 0, TELL, 2, 0, 0);
        dueEnd("the second CLOSE and END are no one's", stair, PLAINLY, 0);
        dueOutputs("the second CLOSE and END are no one's", stair, 8);
        again(stair, SET, 1, 3, 0, LOOP, 1, 0, 0, IF, 1, 0, 0, TELL, 1, 0, 0, END, 0, 0, 0, TELL, 2, 0, 0);
        dueOutputs("an unended LOOP ends with its routine", stair, 8, 8, 8);
        again(stair, IF, 0, 0, 0, TELL, 2, 0, 0);
        dueOutputs("an unended IF, too", stair);
    }

    private static void testRoutines() {
        Stair stair = new Stair();
        add(stair, TELL, 7, 0, 0, OPEN, ALL, 0, 0, ROUTINE, 9, 9, 2, SET, 1, 1, 0, TELL, 1, 0, 0, LOOP, 1, 0, 0,
            ROUTINE, 0, 0, 0, END, 0, 0, 0, SET, 1, 2, 0, TELL, 1, 0, 0, ROUTINE, 0, 0, Integer.MIN_VALUE);
        due("routines", stair.status(1), 3);
        due("routine 0", stair.run(0, 99), 4);
        dueOutputs("routine 0", stair, 1);
        due("routine 1", stair.run(1, 99), 3);
        dueOutputs("routine 1", stair, 2);
        due("routine 2", stair.run(2, 99), 0);
        dueEnd("routine 2", stair, PLAINLY, 0);
        add(stair, TELL, 1, 0, 0);
        due("a step more", stair.run(2, 99), 1);
    }

    private static void testCallValue() {
        Stair stair = new Stair();
        add(stair, ROUTINE, 0, 0, 0, SET, 2, 9, 0, SET, 3, 9, 0, SET, 4, 9, 0, ROUTINE, 1, 10, 1, ROUTINE, 2, 3, -1,
            ROUTINE, 3, 4, 3, TELL, 2, 0, 0, TELL, 3, 0, 0, TELL, 4, 0, 0,
            ROUTINE, 0, 0, 0, SET, 5, -6, 0, RETURN, 5, 0, 0, ROUTINE, 0, 0, 0, ROUTINE, 0, 0, 0, BREAK, 0, 0, 0);
        due("steps", stair.run(0, 99), 12);
        dueOutputs("a RETURN's, none's, a BREAK's", stair, -6, 0, 0);
        dueEnd("the one that calls goes on", stair, PLAINLY, 0);
        stair.wipe();
        add(stair, ROUTINE, 0, 0, 0, SET, 1, 3, 0, ROUTINE, 1, 1, 1, TELL, 1, 0, 0, ROUTINE, 0, 0, 0,
            OPEN, 0, 0, 0, RETURN, 1, 0, 0, FINISH, 0, 0, 0, SET, 1, 8, 0);
        stair.run(0, 99);
        dueOutputs("the value comes behind what it changed", stair, 3);
    }

    private static void testCallFails() {
        Stair stair = new Stair();
        add(stair, ROUTINE, 0, 0, 0, SET, 1, 3, 0, OPEN, 64, 0, 0, ROUTINE, 2, 1, 1, TAKER, 0, 0, 0, TELL, 1, 0, 0,
            CLOSE, 0, 0, 0, ROUTINE, -1, 1, 1);
        stair.run(0, 99);
        dueFailure("CALL of no routine", stair, NONE);
        dueOutputs("CALL of no routine", stair, 3);
        due("NUMBER 1 as it was", stair.number(1), 3);
        stair.wipe();
        add(stair, ROUTINE, 0, 0, 0, OPEN, 8, 0, 0, ROUTINE, 1, 1, 1, TELL, 0, 0, 0, TAKER, 0, 0, 0, TELL, 1, 0, 0,
            TELL, 2, 0, 0, ROUTINE, 0, 0, 0, SET, 2, 7, 0, OPEN, ALL, 0, 0, THROW, THEFT, 0, 0);
        stair.run(0, 99);
        dueOutputs("taken by the one that calls; what it changed stays", stair, 3, 7);
        due("a routine as high as can be", again(stair, ROUTINE, Integer.MAX_VALUE, 1, 1), 1);
        dueFailure("a routine as high as can be", stair, NONE);
        due("a is not cut to three bits", again(stair, ROUTINE, 8, 1, 1), 1);
        dueFailure("a is not cut to three bits", stair, NONE);
    }

    private static void testLoopsOfOtherRoutines() {
        Stair stair = new Stair();
        add(stair, ROUTINE, 0, 0, 0, SET, 1, 2, 0, LOOP, 1, 0, 0, ROUTINE, 1, 2, 1, TELL, 1, 0, 0, END, 0, 0, 0,
            ROUTINE, 0, 0, 0, BREAK, 0, 0, 0, TELL, 7, 0, 0);
        stair.run(0, 99);
        dueOutputs("a BREAK leaves no LOOP of the one that calls", stair, 1, 0);
        dueEnd("a BREAK leaves no LOOP of the one that calls", stair, PLAINLY, 0);
        Stair behind = ran(SET, 1, 1, 0, LOOP, 1, 0, 0, END, 0, 0, 0, BREAK, 0, 0, 0, TELL, 1, 0, 0);
        dueEnd("a LOOP that is over is around no more", behind, BY_RETURN, 0);
    }
}
