import java.io.IOException;

/** The boundary cases of promises 1 to 18, sentence by sentence. */
final class PromiseEdgeTest extends EdgeBase {
    private static final int[] NOT_OF_EIGHT = {-1, 8, 9, 15, -8, 64, LEAST_INT, MOST_INT, LEAST_INT + 7};

    public static void main(String[] args) throws IOException {
        begin(args);
        testNewObject();
        testStep();
        testFullScript();
        testWipe();
        testRunRefused();
        testRunOrder();
        testRunTook();
        testEnd();
        testResult();
        testKind();
        testCause();
        testOut();
        testFinished();
        testDepth();
        testStatus();
        testStatusCounts();
        testManyRuns();
        testNumber();
        testHand();
        testMark();
        testSize();
        testValue();
        testGrid();
        close();
    }

    private static void testNewObject() {
        says("No script; nothing was run.");
        Stair stair = new Stair();
        for (int what = 0; what < 8; what++) {
            due("status(" + what + ")", stair.status(what), 0);
        }
        due("run", stair.run(0, 1), -1);
        due("wipe", stair.wipe(), 0);
        due("end", stair.end(), -1);
        due("first step", stair.step(TELL, 0, 0, 0), 1);
        Stair other = ran("SET 1 5; THROW");
        due("another new one: end", new Stair().end(), -1);
        due("another new one: NUMBER", new Stair().number(1), 0);
        due("the one before", other.number(1), 5);
    }

    private static void testStep() {
        says("A step comes behind the script: how many it has. -1: op is not 0 to 35");
        Stair stair = new Stair();
        int[] bad = {-1, 36, 37, 64, -36, LEAST_INT, MOST_INT, LEAST_INT + 5};
        for (int op : bad) {
            due("step(" + op + ")", stair.step(op, 0, 0, 0), -1);
        }
        due("none has come", stair.status(0), 0);
        due("op 0", stair.step(0, LEAST_INT, MOST_INT, -1), 1);
        due("op 35", stair.step(35, LEAST_INT, MOST_INT, LEAST_INT), 2);
        due("op 36", stair.step(36, 0, 0, 0), -1);
        due("op 34", stair.step(34, 0, 0, 0), 3);
        due("steps", stair.status(0), 3);
        due("routines", stair.status(1), 1);
    }

    /** 2,000 steps are more than the 512 calls that an object is promised for, so these rest on no promise of calls. */
    private static void testFullScript() {
        says("else -2: the script has 2,000");
        Stair stair = Stair.ofAnyCalls();
        for (int i = 1; i <= 1999; i++) {
            stair.step(i == 1500 ? ROUTINE : TELL, 0, 0, 0);
        }
        due("the 2,000th", stair.step(TELL, 0, 0, 0), 2000);
        due("one more", stair.step(TELL, 0, 0, 0), -2);
        due("a MARK more", stair.step(ROUTINE, 0, 0, 0), -2);
        due("op -1", stair.step(-1, 0, 0, 0), -1);
        due("op 36", stair.step(36, 0, 0, 0), -1);
        due("steps", stair.status(0), 2000);
        due("routines", stair.status(1), 1);
        due("run", stair.run(0, 1000), 500);
        due("wipe", stair.wipe(), 2000);
        due("a step again", stair.step(TELL, 0, 0, 0), 1);
    }

    private static void testWipe() {
        says("The script is empty: how many steps it had. The HOUSE, and what is told of the latest run, stay.");
        Stair stair = ran("SET 1 5; THING 2 SAW 1; MAKE INTS:0 1; TELL 1; OPEN ALL; THROW FIRE; TAKER; INSTEAD THEFT; FINISH; CLOSE");
        String house = houseOf(stair);
        due("wipe", stair.wipe(), 11);
        due("wipe of an empty script", stair.wipe(), 0);
        due("HOUSE", house.equals(houseOf(stair)) ? 1 : 0, 1);
        dueFailure("latest run", stair, THEFT, FIRE);
        dueOutputs("latest run", stair, 5);
        dueFinished("latest run", stair, 5);
        due("depth", stair.depth(), 2);
        long[] status = {0, 0, 7, 1, 1, 1, 1, 1};
        for (int what = 0; what < 8; what++) {
            due("status(" + what + ")", stair.status(what), status[what]);
        }
        due("no routine", stair.run(0, 10), -1);
        add(stair, "TAKER; END; MARK_OF 0; TELL 1; CLOSE");
        due("no BLOCK of the old script", stair.run(0, 10), 2);
        Stair returned = ran("SET 1 5; RETURN 1");
        returned.wipe();
        dueEnd("latest run", returned, BY_RETURN, 5);
        Stair open = written("MARK_OF 0; OPEN ALL; LOOP 1");
        open.wipe();
        add(open, "MARK_OF 0; THROW; END; TAKER; CLOSE");
        open.run(0, 9);
        dueFailure("a BLOCK of the old script takes nothing", open, ALARM);
    }

    private static void testRunRefused() {
        says("-1 there is no routine r; -2 n is not 1 to 1,000; -3 the runs so far took more than 8,000 - n steps.");
        Stair stair = written("TELL 1; MARK_OF 0; CALL 1 0; MARK_OF 0; TELL 2");
        int[] none = {-1, 2, 3, LEAST_INT, MOST_INT};
        for (int r : none) {
            due("run(" + r + ", 1)", stair.run(r, 1), -1);
        }
        int[] bad = {0, -1, 1001, LEAST_INT, MOST_INT};
        for (int n : bad) {
            due("run(0, " + n + ")", stair.run(0, n), -2);
        }
        due("n 1", stair.run(1, 1), 1);
        due("n 1000", stair.run(1, 1000), 1);
        Stair worn = wornTo(7000);
        due("1,000 after 7,000", worn.run(1, 1000), 1);
        due("1,000 after 7,001", worn.run(1, 1000), -3);
        due("999 after 7,001", worn.run(1, 999), 1);
        due("999 after 7,002", worn.run(1, 999), -3);
        due("998 after 7,002", worn.run(0, 998), 998);
        due("1 after 8,000", worn.run(1, 1), -3);
        due("steps of all", worn.status(2), 8000);
        due("no step left for an empty routine", worn.run(2, 1), -3);
    }

    /** Runs that took so many steps; routine 0 takes any number, routine 1 one step, routine 2 none. */
    private static Stair wornTo(int steps) {
        Stair stair = written("MARK_OF 0; SET 1 2000; LOOP 1; MARK_OF 0; SET 2 9; MARK_OF 0");
        for (int left = steps; left > 0; left -= Math.min(left, 1000)) {
            due("run", stair.run(0, Math.min(left, 1000)), Math.min(left, 1000));
        }
        due("steps so far", stair.status(2), steps);
        return stair;
    }

    private static void testRunOrder() {
        says("Refused, and all stays, the first of these");
        Stair stair = wornTo(8000);
        int runs = stair.status(3);
        due("no routine, bad n, no steps", stair.run(3, 1001), -1);
        due("no routine, bad n, no steps", stair.run(-1, 0), -1);
        due("no routine, no steps", stair.run(3, 1), -1);
        due("bad n, no steps", stair.run(0, 0), -2);
        due("bad n, no steps", stair.run(0, 1001), -2);
        due("no steps", stair.run(0, 1000), -3);
        due("runs", stair.status(3), runs);
        due("end", stair.end(), SPENT);
        due("a routine that would change a NUMBER", stair.run(1, 1), -3);
        due("NUMBER 2", stair.number(2), 0);
        Stair failed = ran("TELL 1; OPEN ALL; THROW FIRE; TAKER; INSTEAD THEFT; FINISH; CLOSE");
        String house = houseOf(failed);
        due("no routine", failed.run(1, 1), -1);
        due("bad n", failed.run(0, 0), -2);
        dueFailure("refused", failed, THEFT, FIRE);
        dueOutputs("refused", failed, 0);
        dueFinished("refused", failed, 2);
        due("refused: depth", failed.depth(), 2);
        long[] status = {8, 1, 4, 1, 1, 1, 1, 1};
        for (int what = 0; what < 8; what++) {
            due("refused: status(" + what + ")", failed.status(what), status[what]);
        }
        due("refused: HOUSE", house.equals(houseOf(failed)) ? 1 : 0, 1);
        Stair fresh = new Stair();
        fresh.run(0, 1);
        due("refused before the first one: end", fresh.end(), -1);
    }

    private static void testRunTook() {
        says("Routine r is worked, with at most n steps: how many it took.");
        due("none", again(new Stair(), "", 1), 0);
        due("all", again(new Stair(), "TELL 1; TELL 1", 2), 2);
        due("fewer than n", again(new Stair(), "TELL 1; TELL 1", 1000), 2);
        due("SPENT", again(new Stair(), "TELL 1; TELL 1", 1), 1);
        due("a thousand", again(new Stair(), "SET 1 499; LOOP 1; TELL 1; END", 1000), 1000);
        due("failed", again(new Stair(), "TELL 1; THROW; TELL 1", 9), 2);
        Stair stair = written("MARK_OF 0; SET 1 1; MARK_OF 0; SET 1 2; MARK_OF 0; SET 1 3");
        for (int r = 2; r >= 0; r--) {
            stair.run(r, 5);
            due("routine " + r, stair.number(1), r + 1);
        }
    }

    private static void testEnd() {
        says("0 plainly, 1 by a RETURN (also that of a BREAK or AGAIN), 2 it failed, 3 SPENT, 4 TOO DEEP; -1 before the first one.");
        Stair stair = new Stair();
        due("before", stair.end(), -1);
        add(stair, "MARK_OF 0");
        due("before, with a script", stair.end(), -1);
        String[] runs = {"TELL 1", "RETURN 1", "THROW", "TELL 1; TELL 1; TELL 1; TELL 1; TELL 1; TELL 1", "", "BREAK", "AGAIN",
            "CALL 1 1; MARK_OF 0; RETURN 1", "CALL 1 1; MARK_OF 0; THROW", "OPEN; RETURN 1; FINISH; THROW", "OPEN; THROW; FINISH; RETURN"};
        int[] ends = {0, 1, 2, 3, 0, 1, 1, 0, 2, 2, 2};
        for (int i = 0; i < runs.length; i++) {
            again(stair, runs[i], 5);
            due("end of " + runs[i], stair.end(), ends[i]);
        }
        again(stair, "CALL 0 0");
        due("end of CALL 0 0", stair.end(), 4);
        again(stair, "TELL 1");
        due("end of TELL", stair.end(), 0);
    }

    private static void testResult() {
        says("The value of the RETURN when the latest run ended by one, else 0.");
        Stair stair = new Stair();
        due("before", stair.result(), 0);
        String[] runs = {"RETURN 1", "TELL 1", "RETURN 2", "BREAK", "RETURN 1", "AGAIN", "RETURN 2", "THROW", "RETURN 3", "TELL 1; CALL 1 4; MARK_OF 0; RETURN 1",
            "OPEN; RETURN 1; FINISH; THROW", "OPEN; RETURN 1; FINISH; RETURN 2", "OPEN ALL; OPEN; RETURN 1; FINISH; THROW; CLOSE; TAKER; CLOSE",
            "OPEN ALL; THROW; TAKER; RETURN 2", "OPEN; FINISH; RETURN 1", "LOOP 5; OPEN; RETURN 1; FINISH; BREAK", "OPEN; BREAK; FINISH; RETURN 1"};
        long[] results = {MOST, 0, LEAST, 0, MOST, 0, LEAST, 0, -1, 0, 0, MOST, 0, LEAST, 0, MOST, 0};
        again(stair, "LONG 1 " + MOST + "; LONG 2 " + LEAST + "; SET 3 -1; SET 5 2");
        for (int i = 0; i < runs.length; i++) {
            again(stair, runs[i]);
            due("result of " + runs[i], stair.result(), results[i]);
        }
        again(stair, "RETURN 1");
        again(stair, "TELL 1; RETURN 1", 1);
        due("SPENT", stair.result(), 0);
        again(stair, "RETURN 1");
        again(stair, "CALL 0 4; RETURN 1");
        due("TOO DEEP", stair.result(), 0);
    }

    private static void testKind() {
        says("The kind of the failure by which the latest run ended; -1 when it ended otherwise, or before.");
        Stair stair = new Stair();
        due("before", stair.kind(), -1);
        String[] runs = {"THROW ALARM", "TELL 1", "THROW FLASH", "RETURN 1", "THROW THEFT", "BREAK", "THROW_NOTHING", "OPEN ALL; THROW; TAKER",
            "OPEN ALL; THROW; TAKER; THROW FIRE", "OPEN; THROW; FINISH; DIVIDE 1 1 0", "OPEN; THROW THEFT; FINISH; RETURN 1"};
        int[] kinds = {ALARM, -1, FLASH, -1, THEFT, -1, NONE, -1, FIRE, DIVISION, THEFT};
        for (int i = 0; i < runs.length; i++) {
            again(stair, runs[i]);
            due("kind of " + runs[i], stair.kind(), kinds[i]);
        }
        again(stair, "TELL 1; THROW", 1);
        due("SPENT", stair.kind(), -1);
        again(stair, "THROW");
        again(stair, "OPEN; THROW; FINISH; CALL 0 1");
        due("TOO DEEP", stair.kind(), -1);
    }

    private static void testCause() {
        says("The kind of that failure's CAUSE (i = 0), of the CAUSE's CAUSE (1), and so on; -1 when there is none, or i is below 0.");
        due("before", new Stair().cause(0), -1);
        Stair stair = ran("OPEN ALL; THROW_NOTHING; TAKER; OPEN ALL; INSTEAD FIRE; TAKER; OPEN ALL; INSTEAD FLASH; TAKER; INSTEAD THEFT");
        dueFailure("three", stair, THEFT, FLASH, FIRE, NONE);
        int[] none = {3, 4, MOST_INT, -1, -2, LEAST_INT};
        for (int i : none) {
            due("cause(" + i + ")", stair.cause(i), -1);
        }
        again(stair, "INSTEAD ALARM");
        dueFailure("none", stair, ALARM);
        again(stair, "OPEN ALL; THROW FIRE; TAKER; INSTEAD ALARM");
        dueFailure("one", stair, ALARM, FIRE);
        again(stair, "TELL 1");
        dueEnd("plainly", stair, PLAINLY, 0);
        again(stair, "OPEN ALL; OPEN ALL; THROW FIRE; TAKER; INSTEAD ALARM; CLOSE; TAKER");
        dueEnd("one that was TAKEN is none of the run", stair, PLAINLY, 0);
        again(stair, "OPEN ALL; THROW FIRE; TAKER; INSTEAD ALARM; FINISH; TELL 1; TELL 1", 4);
        dueEnd("SPENT", stair, SPENT, 0);
        testManyCauses();
    }

    /** 22 routines of 8 trials each, one inside the other: each trial takes the failure of the one in it. */
    private static void testManyCauses() {
        Stair stair = ran("SET 1 22; SET 2 1");
        again(stair, "OPEN ALL; ".repeat(8) + "LESS 1 1 2; DIVIDE 3 3 1; CALL 0 0; " + "TAKER; INSTEAD FLASH; CLOSE; ".repeat(7)
            + "TAKER; INSTEAD FIRE");
        due("many: CAUSES", stair.status(6), 176);
        due("many: kind", stair.kind(), FIRE);
        for (int i = 0; i < 175; i++) {
            due("many: cause(" + i + ")", stair.cause(i), i % 8 == 7 ? FIRE : FLASH);
        }
        due("many: the last", stair.cause(175), DIVISION);
        due("many: behind the last", stair.cause(176), -1);
    }

    private static void testOut() {
        says("Output i (from 0) of the latest run; 0 when there is none.");
        int[] none = {0, 1, 499, 500, -1, LEAST_INT, MOST_INT};
        for (int i : none) {
            due("before: out(" + i + ")", new Stair().out(i), 0);
        }
        Stair stair = ran("SET 1 300; SET 2 7; LOOP 1; TELL 2; TELL 1; END");
        due("out(0)", stair.out(0), 7);
        due("out(498)", stair.out(498), 7);
        due("out(499)", stair.out(499), 50);
        int[] beyond = {500, 501, 599, 600, -1, LEAST_INT, MOST_INT};
        for (int i : beyond) {
            due("out(" + i + ")", stair.out(i), 0);
        }
        again(stair, "SET 1 3; TELL 1; TELL 2; THROW");
        due("also of a run that failed", stair.out(1), 7);
        due("of the run before", stair.out(2), 0);
        again(stair, "TELL 1; TELL 2", 1);
        dueOutputs("also of one that is SPENT", stair, 3);
        again(stair, "");
        dueOutputs("none", stair);
    }

    private static void testFinished() {
        says("The finishing parts of the latest run that were begun, in order: the i-th (from 0) is that of the trial whose OPEN is the step "
            + "with this place in the script (from 0); -1 when there is none.");
        due("before", new Stair().finished(0), -1);
        Stair first = written("OPEN; MARK_OF 0; OPEN; FINISH; CLOSE; OPEN; OPEN; FINISH; TELL 1; CLOSE; FINISH; CLOSE");
        first.run(0, 99);
        dueFinished("the inner one first", first, 2, 6, 5);
        int[] none = {3, 4, 999, 1000, MOST_INT, -1, -2, LEAST_INT};
        for (int i : none) {
            due("finished(" + i + ")", first.finished(i), -1);
        }
        Stair stair = ran("SET 1 2; LOOP 1; OPEN; FINISH; CLOSE; OPEN; CLOSE; END");
        dueFinished("each time", stair, 3, 3);
        again(stair, "OPEN; THROW; FINISH; OPEN; FINISH; CLOSE");
        dueFinished("a failure", stair, 1, 4);
        again(stair, "OPEN; FINISH; TELL 1; CLOSE", 1);
        dueFinished("begun, and SPENT there", stair, 1);
        again(stair, "OPEN; TELL 1; FINISH; TELL 1; CLOSE", 1);
        dueFinished("SPENT ahead of it", stair);
        again(stair, "OPEN; CALL 0 0; FINISH; CLOSE");
        dueFinished("TOO DEEP", stair);
        again(stair, "OPEN; FINISH; THROW; CLOSE");
        dueFinished("one that failed", stair, 1);
        again(stair, "TELL 1");
        dueFinished("none", stair);
        Stair many = new Stair();
        again(many, "SET 1 99; LOOP 1" + "; OPEN; FINISH; CLOSE".repeat(100) + "; END", 1000);
        due("many", many.status(5), 989);
        due("many: the first of the last turn", many.finished(900), 3);
        due("many: the last", many.finished(988), 3 + 3 * 88);
        due("many: behind the last", many.finished(989), -1);
    }

    private static void testDepth() {
        says("The most that was OPEN at once in the latest run; 0 before.");
        Stair stair = new Stair();
        due("before", stair.depth(), 0);
        due("before, refused", stair.run(0, 1), -1);
        due("before, refused", stair.depth(), 0);
        again(stair, "OPEN; OPEN; CLOSE; CLOSE; OPEN; CLOSE");
        due("3", stair.depth(), 3);
        again(stair, "");
        due("1", stair.depth(), 1);
        again(stair, "OPEN; OPEN; OPEN", 2);
        due("SPENT", stair.depth(), 3);
        again(stair, "CALL 0 0");
        due("TOO DEEP", stair.depth(), 200);
        again(stair, "THROW");
        due("the latest", stair.depth(), 1);
    }

    private static void testStatus() {
        says("-1: another what.");
        int[] other = {-1, 8, 9, -8, LEAST_INT, MOST_INT, LEAST_INT + 3};
        for (int what : other) {
            due("new: status(" + what + ")", new Stair().status(what), -1);
            due("status(" + what + ")", ran("TELL 1").status(what), -1);
        }
    }

    private static void dueStatus(String what, Stair stair, int... wanted) {
        for (int i = 0; i < wanted.length; i++) {
            due(what + ": status(" + i + ")", stair.status(i), wanted[i]);
        }
    }

    private static void testStatusCounts() {
        says("what = 0: steps of the script, 1: its routines, 2: steps that all runs took, 3: runs, 4: outputs kept of the latest run, "
            + "5: finishing parts of it that were begun, 6: CAUSES along its failure, 7: failures that were TAKEN in it.");
        Stair stair = ran("TELL 1; OPEN ALL; OPEN ALL; THROW; TAKER; INSTEAD FIRE; FINISH; CLOSE; TAKER; INSTEAD FLASH; FINISH; TELL 1; CLOSE; MARK_OF 0");
        dueStatus("failed", stair, 15, 2, 7, 1, 2, 2, 2, 2);
        stair.run(1, 5);
        dueStatus("plainly", stair, 15, 2, 7, 2, 0, 0, 0, 0);
        stair.run(2, 5);
        dueStatus("refused", stair, 15, 2, 7, 2, 0, 0, 0, 0);
        stair.run(0, 3);
        dueStatus("SPENT", stair, 15, 2, 10, 3, 1, 0, 0, 0);
        again(stair, "OPEN ALL; THROW; TAKER; FINISH; CLOSE; CALL 0 0");
        dueStatus("TOO DEEP", stair, 7, 1, 608, 4, 0, 199, 0, 199);
        for (int i = 0; i < 300; i++) {
            stair.run(0, 0);
        }
        dueStatus("refused again and again", stair, 7, 1, 608, 4, 0, 199, 0, 199);
        stair.wipe();
        dueStatus("wiped", stair, 0, 0, 608, 4, 0, 199, 0, 199);
        again(stair, "SET 1 300; LOOP 1; TELL 1; TELL 1; END");
        dueStatus("outputs that are kept", stair, 6, 1, 1508, 5, 500, 0, 0, 0);
    }

    private static void testManyRuns() {
        says("2: steps that all runs took, 3: runs");
        Stair stair = written("MARK_OF 0; TELL 1; MARK_OF 0");
        for (int i = 1; i <= 160; i++) {
            due("run(0, 1)", stair.run(0, 1), 1);
            due("run(1, 1)", stair.run(1, 1), 0);
        }
        due("steps", stair.status(2), 160);
        due("runs", stair.status(3), 320);
    }

    private static void testNumber() {
        says("NUMBER i; 0 when i is not 0 to 7.");
        Stair stair = ran("SET 0 10; SET 1 11; SET 2 12; SET 3 13; SET 4 14; SET 5 15; SET 6 16; SET 7 17");
        for (int i = 0; i < 8; i++) {
            due("number(" + i + ")", stair.number(i), 10 + i);
        }
        for (int i : NOT_OF_EIGHT) {
            due("number(" + i + ")", stair.number(i), 0);
        }
    }

    private static final String ALL_HANDS = "SET 1 7; THING 0 SAW 1; THING 1 SAW 1; THING 2 CHISEL 1; THING 3 SAW 1; THING 4 SAW 1; "
        + "THING 5 SAW 1; THING 6 3 1; THING 7 HAMMER 1";

    private static void testHand() {
        says("The kind of the THING that HAND i has; -1: nothing; -2: i is not 0 to 7.");
        Stair stair = ran(ALL_HANDS);
        int[] kinds = {SAW, SAW, CHISEL, SAW, SAW, SAW, -1, HAMMER};
        for (int i = 0; i < 8; i++) {
            due("hand(" + i + ")", stair.hand(i), kinds[i]);
            due("new: hand(" + i + ")", new Stair().hand(i), -1);
        }
        for (int i : NOT_OF_EIGHT) {
            due("hand(" + i + ")", stair.hand(i), -2);
            due("new: hand(" + i + ")", new Stair().hand(i), -2);
        }
    }

    private static void testMark() {
        says("The MARK of the THING that HAND i has; 0 when it has nothing, or there is no such HAND.");
        Stair stair = ran(ALL_HANDS);
        for (int i = 0; i < 8; i++) {
            due("mark(" + i + ")", stair.mark(i), i == 6 ? 0 : 7);
            due("new: mark(" + i + ")", new Stair().mark(i), 0);
        }
        for (int i : NOT_OF_EIGHT) {
            due("mark(" + i + ")", stair.mark(i), 0);
        }
    }

    private static final String ALL_ROWS = "SET 1 3; SET 2 2; THING 2 CHISEL; SET 3 61; LOOP 3; END; MAKE BYTES:0 1; MAKE BYTES:7 2; MAKE THINGS:0 1; "
        + "MAKE THINGS:7 2; MAKE LONGS:3 3; PUT BYTES:0 2 1; PUT THINGS:0 2 2; SET 1 1; PUT BYTES:7 1 2; PUT THINGS:7 1 2; PUT THINGS:0 3 2";

    private static void testSize() {
        says("How many places the ROW of a sort on a SHELF has; -1: none; -2: sort or shelf is not 0 to 7.");
        Stair stair = ran(ALL_ROWS);
        due("size(0, 0)", stair.size(0, 0), 3);
        due("size(0, 7)", stair.size(0, 7), 2);
        due("size(7, 0)", stair.size(7, 0), 3);
        due("size(7, 7)", stair.size(7, 7), 2);
        due("of no places", stair.size(LONGS, 3), 0);
        due("none", stair.size(LONGS, 4), -1);
        due("none", stair.size(0, 1), -1);
        due("none", stair.size(1, 0), -1);
        for (int i : NOT_OF_EIGHT) {
            due("size(" + i + ", 0)", stair.size(i, 0), -2);
            due("size(0, " + i + ")", stair.size(0, i), -2);
            due("size(" + i + ", 5)", stair.size(i, 5), -2);
            due("size(5, " + i + ")", stair.size(5, i), -2);
            due("size(" + i + ", " + i + ")", stair.size(i, i), -2);
        }
    }

    private static void testValue() {
        says("The value at place i of the ROW of a sort (0 to 6) on a SHELF, as LOOK has it; of sort 7 the kind of the THING there, -1 for nothing. "
            + "0 when there is no such ROW or place.");
        Stair stair = ran(ALL_ROWS);
        due("value(0, 0, 2)", stair.value(0, 0, 2), 3);
        due("value(0, 7, 1)", stair.value(0, 7, 1), 2);
        due("value(0, 0, 0)", stair.value(0, 0, 0), 0);
        due("value(7, 0, 2)", stair.value(7, 0, 2), CHISEL);
        due("value(7, 0, 0)", stair.value(7, 0, 0), CHISEL);
        due("value(7, 0, 1): nothing", stair.value(7, 0, 1), -1);
        due("value(7, 7, 1)", stair.value(7, 7, 1), CHISEL);
        int[] places = {-1, 3, 4, 63, 64, LEAST_INT, MOST_INT};
        for (int i : places) {
            due("value(0, 0, " + i + ")", stair.value(0, 0, i), 0);
            due("value(7, 0, " + i + ")", stair.value(7, 0, i), 0);
            due("value of no places", stair.value(LONGS, 3, i), 0);
        }
        due("no ROW", stair.value(LONGS, 4, 0), 0);
        due("no ROW of THINGS", stair.value(THINGS, 4, 0), 0);
        for (int i : NOT_OF_EIGHT) {
            due("value(" + i + ", 0, 2)", stair.value(i, 0, 2), 0);
            due("value(0, " + i + ", 2)", stair.value(0, i, 2), 0);
            due("value(7, " + i + ", 2)", stair.value(7, i, 2), 0);
            due("value(" + i + ", 7, 1)", stair.value(i, 7, 1), 0);
            due("value(" + i + ", " + i + ", 0)", stair.value(i, i, 0), 0);
        }
    }

    private static void testGrid() {
        says("The value at place j of row i of the GRID; 0 when there is none.");
        due("new", new Stair().grid(0, 0), 0);
        Stair stair = ran("SET 1 3; SET 2 2; GRID 1 2; SET 3 1; SET 4 -5; GRID_PUT 2 3 4; SET 4 6; GRID_PUT 3 0 4");
        due("grid(2, 1)", stair.grid(2, 1), -5);
        due("grid(1, 0)", stair.grid(1, 0), 6);
        due("grid(1, 1)", stair.grid(1, 1), 0);
        int[] far = {-1, -7, 7, 8, LEAST_INT, MOST_INT, 1 << 29, 3};
        for (int i : far) {
            due("grid(" + i + ", 1)", stair.grid(i, 1), 0);
            due("grid(1, " + i + ")", stair.grid(1, i), 0);
            due("grid(2, " + i + ")", stair.grid(2, i), 0);
            due("grid(" + i + ", " + i + ")", stair.grid(i, i), 0);
        }
        due("grid(3, 0)", stair.grid(3, 0), 0);
        due("grid(2, 2)", stair.grid(2, 2), 0);
        due("grid(0, 7)", stair.grid(0, 7), 0);
        due("grid(2, -7)", stair.grid(2, -7), 0);
        again(stair, "GRID 0 0");
        due("of no rows", stair.grid(0, 0), 0);
        due("of no rows", stair.grid(2, 1), 0);
        again(stair, "GRID 1 0");
        due("of no places", stair.grid(0, 0), 0);
    }
}
