/** Promise 10, and trials: their parts, what comes of them, and their finishing parts on every way out. */
final class TrialTest extends TestBase {
    public static void main(String[] args) {
        testPlainTrial();
        testTakenFailure();
        testTrialWithoutTaker();
        testTakerFails();
        testFinishAndLeaving();
        testFinishLeaves();
        testFinishFails();
        testFinishHasItsOwnLoop();
        testOrderOfFinishes();
        testUnendedTrials();
        testEmptyParts();
        testFinishAheadOfTaker();
        testManyFinishes();
        close();
    }

    private static void testPlainTrial() {
        Stair stair = ran(OPEN, ALL, 0, 0, TELL, 0, 0, 0, TAKER, 0, 0, 0, TELL, 1, 0, 0, FINISH, 0, 0, 0,
            SET, 2, 3, 0, TELL, 2, 0, 0, CLOSE, 0, 0, 0, SET, 2, 4, 0, TELL, 2, 0, 0);
        dueOutputs("BODY, FINISH, behind it", stair, 0, 3, 4);
        dueFinished("plain", stair, 1);
        dueEnd("plain", stair, PLAINLY, 0);
        due("plain: taken", stair.status(7), 0);
    }

    private static void testTakenFailure() {
        Stair stair = ran(SET, 1, 1, 0, SET, 2, 2, 0, SET, 3, 3, 0, OPEN, 8, 0, 0, THROW, THEFT, 0, 0,
            TELL, 0, 0, 0, TAKER, 0, 0, 0, TELL, 1, 0, 0, FINISH, 0, 0, 0, TELL, 2, 0, 0, CLOSE, 0, 0, 0,
            TELL, 3, 0, 0);
        dueOutputs("TAKER, FINISH, behind it", stair, 1, 2, 3);
        dueEnd("taken", stair, PLAINLY, 0);
        again(stair, OPEN, 8, 0, 0, OPEN, 4, 0, 0, THROW, THEFT, 0, 0, TAKER, 0, 0, 0, TELL, 1, 0, 0,
            FINISH, 0, 0, 0, TELL, 2, 0, 0, CLOSE, 0, 0, 0, TELL, 0, 0, 0, TAKER, 0, 0, 0, TELL, 3, 0, 0);
        dueOutputs("taken further out, behind the finishing part", stair, 2, 3);
        dueEnd("taken further out", stair, PLAINLY, 0);
        due("taken further out: once", stair.status(7), 1);
    }

    private static void testTrialWithoutTaker() {
        Stair stair = ran(OPEN, -1, 0, 0, THROW, FIRE, 0, 0, CLOSE, 0, 0, 0, TELL, 0, 0, 0);
        dueFailure("no TAKER", stair, FIRE);
        due("no TAKER: taken", stair.status(7), 0);
        dueOutputs("no TAKER", stair);
    }

    private static void testTakerFails() {
        Stair stair = ran(OPEN, ALL, 0, 0, THROW, FIRE, 0, 0, TAKER, 0, 0, 0, THROW, THEFT, 0, 0,
            TELL, 0, 0, 0, FINISH, 0, 0, 0, SET, 1, 9, 0, TELL, 1, 0, 0, CLOSE, 0, 0, 0, TELL, 0, 0, 0);
        dueFailure("its own TAKER takes it not", stair, THEFT);
        due("taken", stair.status(7), 1);
        dueOutputs("finished all the same", stair, 9);
    }

    private static void testFinishAndLeaving() {
        int[] ways = {BREAK, AGAIN, RETURN};
        for (int way : ways) {
            for (int inTaker = 0; inTaker < 2; inTaker++) {
                String what = "op " + way + (inTaker == 1 ? " in a TAKER" : " in a BODY");
                Stair stair = ran(SET, 1, 2, 0, LOOP, 1, 0, 0, OPEN, ALL, 0, 0,
                    inTaker == 1 ? THROW : TELL, 1, 0, 0, inTaker == 1 ? TAKER : CAST, 0, 0, 0, way, 1, 0, 0,
                    TELL, 0, 0, 0, FINISH, 0, 0, 0, TELL, 1, 0, 0, CLOSE, 0, 0, 0, TELL, 0, 0, 0, END, 0, 0, 0);
                if (way == AGAIN) {
                    dueFinished(what, stair, 3, 3);
                } else {
                    dueFinished(what, stair, 3);
                }
                dueEnd(what, stair, way == RETURN ? BY_RETURN : PLAINLY, way == RETURN ? 1 : 0);
                due(what + ": NUMBER 1", stair.number(1), way == AGAIN ? 0 : 1);
            }
        }
    }

    private static void testFinishLeaves() {
        int[] ways = {BREAK, AGAIN, RETURN};
        for (int way : ways) {
            String what = "FINISH with op " + way;
            Stair stair = ran(SET, 1, 5, 0, OPEN, 0, 0, 0, FINISH, 0, 0, 0, way, 1, 0, 0, TELL, 1, 0, 0,
                CLOSE, 0, 0, 0, SET, 2, 8, 0, TELL, 2, 0, 0);
            dueOutputs(what + ": goes on behind a plain trial", stair, 8);
            dueEnd(what + ": plain", stair, PLAINLY, 0);
            again(stair, SET, 1, 5, 0, OPEN, 0, 0, 0, THROW, THEFT, 0, 0, FINISH, 0, 0, 0, way, 1, 0, 0);
            dueFailure(what + ": the failure comes", stair, THEFT);
            again(stair, SET, 1, 5, 0, SET, 2, 6, 0, OPEN, 0, 0, 0, RETURN, 2, 0, 0, FINISH, 0, 0, 0, way, 1, 0, 0);
            dueEnd(what + ": the RETURN comes", stair, BY_RETURN, 6);
            again(stair, SET, 1, 2, 0, LOOP, 1, 0, 0, OPEN, 0, 0, 0, FINISH, 0, 0, 0, way, 1, 0, 0, CLOSE, 0, 0, 0,
                TELL, 1, 0, 0, END, 0, 0, 0);
            dueOutputs(what + ": not out of a LOOP", stair, 1, 0);
        }
    }

    private static void testFinishFails() {
        dueFailure("in place of plainly", ran(OPEN, ALL, 0, 0, TAKER, 0, 0, 0, FINISH, 0, 0, 0, THROW, 2, 0, 0), FLASH);
        dueFailure("in place of a RETURN", ran(OPEN, ALL, 0, 0, RETURN, 0, 0, 0, TAKER, 0, 0, 0, FINISH, 0, 0, 0,
            THROW, 2, 0, 0), FLASH);
        dueFailure("in place of a failure", ran(OPEN, 0, 0, 0, THROW, 3, 0, 0, FINISH, 0, 0, 0, THROW, 2, 0, 0), FLASH);
        Stair stair = ran(SET, 1, 3, 0, LOOP, 1, 0, 0, OPEN, 0, 0, 0, BREAK, 0, 0, 0, FINISH, 0, 0, 0,
            THROW, 2, 0, 0, CLOSE, 0, 0, 0, END, 0, 0, 0, TELL, 0, 0, 0);
        dueFailure("in place of a BREAK", stair, FLASH);
        due("its own TAKER takes it not", stair.status(7), 0);
        again(stair, OPEN, 4, 0, 0, OPEN, 0, 0, 0, THROW, 3, 0, 0, FINISH, 0, 0, 0, THROW, 2, 0, 0, CLOSE, 0, 0, 0,
            TAKER, 0, 0, 0, CLOSE, 0, 0, 0);
        dueEnd("taken further out", stair, PLAINLY, 0);
    }

    private static void testFinishHasItsOwnLoop() {
        Stair stair = ran(SET, 1, 3, 0, OPEN, 0, 0, 0, THROW, THEFT, 0, 0, FINISH, 0, 0, 0, LOOP, 1, 0, 0,
            TELL, 1, 0, 0, BREAK, 0, 0, 0, END, 0, 0, 0, SET, 1, 7, 0, TELL, 1, 0, 0, CLOSE, 0, 0, 0);
        dueOutputs("a BREAK of a LOOP in the finishing part", stair, 2, 7);
        dueFailure("a BREAK of a LOOP in the finishing part", stair, THEFT);
    }

    private static void testOrderOfFinishes() {
        Stair stair = new Stair();
        add(stair, TELL, 0, 0, 0, ROUTINE, 0, 0, 0, OPEN, 0, 0, 0, ROUTINE, 1, 0, 1, FINISH, 0, 0, 0,
            OPEN, 0, 0, 0, FINISH, 0, 0, 0, CLOSE, 0, 0, 0, CLOSE, 0, 0, 0,
            ROUTINE, 0, 0, 0, OPEN, 0, 0, 0, THROW, 1, 0, 0, FINISH, 0, 0, 0);
        stair.run(0, 100);
        dueFinished("the called one's first", stair, 10, 2, 5);
        due("finished(-1)", stair.finished(-1), -1);
        due("finished(least)", stair.finished(Integer.MIN_VALUE), -1);
        due("finished(most)", stair.finished(Integer.MAX_VALUE), -1);
        stair.run(1, 100);
        dueFinished("of the latest run", stair, 10);
    }

    private static void testUnendedTrials() {
        Stair stair = new Stair();
        add(stair, ROUTINE, 0, 0, 0, OPEN, ALL, 0, 0, OPEN, 0, 0, 0, THROW, 3, 0, 0, FINISH, 0, 0, 0, TELL, 0, 0, 0,
            ROUTINE, 0, 0, 0, TAKER, 0, 0, 0, CLOSE, 0, 0, 0, TELL, 0, 0, 0);
        due("steps", stair.run(0, 100), 4);
        dueFailure("ended with their routine", stair, THEFT);
        due("the next routine's are no one's", stair.run(1, 100), 3);
        dueEnd("the next routine's are no one's", stair, PLAINLY, 0);
        stair = ran(OPEN, ALL, 0, 0, OPEN, ALL, 0, 0, THROW, 0, 0, 0, TAKER, 0, 0, 0, TELL, 0, 0, 0);
        dueOutputs("the INNERMOST one's TAKER", stair, 0);
        stair = ran(OPEN, ALL, 0, 0, SET, 1, 1, 0, LOOP, 1, 0, 0, THROW, 0, 0, 0, TAKER, 0, 0, 0, TELL, 0, 0, 0);
        dueFailure("a TAKER in an unended LOOP", stair, ALARM);
    }

    private static void testEmptyParts() {
        Stair stair = ran(OPEN, 0, 0, 0, FINISH, 0, 0, 0);
        dueFinished("empty finishing part", stair, 1);
        due("steps", stair.status(2), 1);
        again(stair, OPEN, ALL, 0, 0, THROW, 0, 0, 0, TAKER, 0, 0, 0);
        dueEnd("empty TAKER's part", stair, PLAINLY, 0);
        again(stair, OPEN, 0, 0, 0, CLOSE, 0, 0, 0);
        dueFinished("no finishing part", stair);
    }

    /** A TAKER behind a FINISH belongs to no BLOCK. */
    private static void testFinishAheadOfTaker() {
        Stair stair = ran(OPEN, ALL, 0, 0, THROW, 2, 0, 0, FINISH, 0, 0, 0, TAKER, 0, 0, 0, TELL, 0, 0, 0,
            CLOSE, 0, 0, 0);
        dueFailure("not taken", stair, FLASH);
        dueOutputs("it is a step of the finishing part", stair, 0);
        due("steps", stair.status(2), 4);
    }

    private static void testManyFinishes() {
        Stair stair = new Stair();
        add(stair, ROUTINE, 0, 0, 0, SET, 1, 2000, 0, LOOP, 1, 0, 0, OPEN, 0, 0, 0, FINISH, 0, 0, 0, CLOSE, 0, 0, 0);
        stair.run(0, 1000);
        due("finishing parts", stair.status(5), 499);
        due("the last", stair.finished(498), 3);
        due("behind it", stair.finished(499), -1);
    }
}
