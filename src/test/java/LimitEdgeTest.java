import java.io.IOException;

/** The boundary cases of "Terms": SPENT and TOO DEEP, sentence by sentence. */
final class LimitEdgeTest extends EdgeBase {
    public static void main(String[] args) throws IOException {
        begin(args);
        testWhatTakesAStep();
        testAheadOfWhatItDoes();
        testEveryNumberOfSteps();
        testSpentEndsAtOnce();
        testNotSpent();
        testTwoHundredOpen();
        testTooDeep();
        testTooDeepByCalls();
        testTooDeepEndsAtOnce();
        testItsStepIsTaken();
        testWhatIsOpen();
        testOpenUntilFinished();
        testOpenNoMore();
        close();
    }

    private static void testWhatTakesAStep() {
        says("(an OPEN, IF, CALL one each; a LOOP one each time it looks; TAKERS, FINISHES, CLOSES, ENDS that belong to a BLOCK none)");
        duePlain("OPEN; TAKER; FINISH; CLOSE", 1);
        duePlain("IF 1 2; END", 1);
        duePlain("IF 2 1; END", 1);
        duePlain("CALL 1 1; MARK_OF 0", 1);
        duePlain("LOOP 0; END", 1);
        duePlain("LOOP 1; END", 2);
        duePlain("LOOP 5; END", 6);
        duePlain("LOOP 5; BREAK; END", 2);
        duePlain("LOOP 5; AGAIN; END", 11);
        duePlain("TAKER; FINISH; CLOSE; END", 4);
        dueReturn("RETURN 5", 5, 1);
        dueReturn("BREAK", 0, 1);
        dueReturn("AGAIN", 0, 1);
        dueToFail("THROW", ALARM, 1);
        dueToFail("CALL 1 1", NONE, 1);
        dueToFail("DIVIDE 1 1 0", DIVISION, 1);
    }

    private static final String GIVEN = "SET 1 1; SET 2 2; THING 1 HAMMER 1; THING 2 SAW; SET 3 1; MAKE LONGS:0 2; "
        + "PUT LONGS:0 1 2; MAKE THINGS:0 2; GRID 2 2; GRID_PUT 1 1 2; SET 4 -1";

    private static void testAheadOfWhatItDoes() {
        says("Each step that is worked takes one of the run's steps ahead of what it does");
        String[] steps = {"TELL 1", "SET 1 9", "ADD 1 1 2", "LESS 1 1 2", "TIMES 1 1 4", "DIVIDE 1 2 4", "REST 1 2 2",
            "DIVIDE 1 1 0", "MAKE LONGS:0 1", "MAKE LONGS:0 4", "LOOK LONGS:0 1 3", "LOOK LONGS:0 4 3", "PUT LONGS:0 1 4",
            "LENGTH LONGS:0 1", "GRID 1 1", "GRID_LOOK 1 1 4", "GRID_PUT 1 1 4", "THING 1 SAW 4", "GIVE 1 2", "MARK 1 4",
            "MARK_PUT 1 4", "CAST 1 0 2", "CAST 1 1 2", "USE 1 1 2", "RING 2 1 3", "WEIGH 1 1 2", "THROW FIRE", "THROW_NOTHING",
            "INSTEAD FLASH", "OPEN", "TAKER", "FINISH", "CLOSE", "LOOP 2", "IF 1 2", "END", "BREAK", "AGAIN", "RETURN 2",
            "CALL 1 2; MARK_OF 0", "CALL 7 2"};
        String house = houseOf(ran(GIVEN));
        for (String step : steps) {
            Stair stair = ran(GIVEN);
            due(step + ": steps", again(stair, "GIVE 7 7; " + step, 1), 1);
            dueEnd(step + ": no step left", stair, SPENT, 0);
            dueOutputs(step + ": no step left", stair);
            due(step + ": no step left: depth", stair.depth(), 1);
            due(step + ": the HOUSE is as it was", house.equals(houseOf(stair)) ? 1 : 0, 1);
        }
    }

    private static final String LONG_WAY = "SET 1 2; SET 2 1; LOOP 1; TELL 1; OPEN ALL; CALL 1 4; TAKER; TELL 4; IF 0 2; TELL 2; END; FINISH; "
        + "TELL 1; CLOSE; END; TELL 3; MARK_OF 0; OPEN 2; THROW THEFT; TAKER; TELL 7; FINISH; OPEN ALL; DIVIDE 1 1 0; TAKER; TELL 5; CLOSE; CLOSE";

    /** With fewer steps than the whole way takes, the run does what the whole one does, up to there. */
    private static void testEveryNumberOfSteps() {
        says("Where there is none left the run is SPENT: it ends at once");
        Stair whole = new Stair();
        int steps = again(whole, LONG_WAY);
        due("the whole way", steps, 30);
        due("the whole way: end", whole.end(), PLAINLY);
        for (int n = 1; n <= steps + 2; n++) {
            Stair stair = new Stair();
            due("steps of run(0, " + n + ")", again(stair, LONG_WAY, n), Math.min(n, steps));
            due("end of run(0, " + n + ")", stair.end(), n < steps ? SPENT : PLAINLY);
            int outputs = stair.status(4);
            due("outputs that are too many", outputs > whole.status(4) ? 1 : 0, 0);
            for (int i = 0; i < outputs; i++) {
                due("out(" + i + ") of run(0, " + n + ")", stair.out(i), whole.out(i));
            }
            due("steps of all runs", stair.status(2), Math.min(n, steps));
        }
    }

    private static Stair dueSpent(String text, int n, int finishes, int taken, long... outputs) {
        Stair stair = ran("SET 1 1; SET 2 2; SET 3 3; SET 4 4; SET 5 5");
        due(text + ": steps", again(stair, text, n), n);
        dueEnd(text, stair, SPENT, 0);
        dueOutputs(text, stair, outputs);
        due(text + ": finishing parts", stair.status(5), finishes);
        due(text + ": taken", stair.status(7), taken);
        return stair;
    }

    private static void testSpentEndsAtOnce() {
        says("no trial takes it, no finishing part is worked.");
        dueSpent("OPEN -1; TELL 1; TAKER; TELL 2; FINISH; TELL 3; CLOSE; TELL 4", 1, 0, 0);
        dueSpent("OPEN -1; OPEN -1; TELL 1; TELL 1; TAKER; FINISH; CLOSE; TAKER; FINISH; CLOSE", 3, 0, 0, 1);
        dueSpent("OPEN -1; THROW; TAKER; TELL 2; FINISH; TELL 3; CLOSE; TELL 4", 2, 0, 1);
        dueSpent("OPEN -1; OPEN -1; FINISH; TELL 2; CLOSE; TAKER; FINISH; TELL 3; CLOSE; TELL 4", 2, 1, 0);
        dueSpent("OPEN -1; CALL 1 5; TAKER; TELL 1; FINISH; TELL 2; CLOSE; MARK_OF 0; OPEN -1; TELL 3; TAKER; FINISH; CLOSE", 3, 0, 0);
        dueSpent("TELL 1; THROW", 1, 0, 0, 1);
        dueSpent("OPEN -1; THROW; TAKER; TELL 1; CLOSE", 1, 0, 0);
        dueSpent("TELL 1; RETURN 1", 1, 0, 0, 1);
        dueSpent("OPEN; RETURN 1; FINISH; TELL 1; TELL 1; CLOSE", 3, 1, 0, 1);
        dueSpent("OPEN; THROW; FINISH; TELL 1; TELL 1; CLOSE", 3, 1, 0, 1);
        due("a LOOP that cannot look", dueSpent("TELL 1; LOOP 3; END", 1, 0, 0, 1).number(3), 3);
        due("a LOOP that cannot look again", dueSpent("LOOP 3; TELL 3; END", 2, 0, 0, 2).number(3), 2);
        due("a LOOP that cannot look any more", dueSpent("LOOP 1; END", 1, 0, 0).number(1), 0);
        due("a CALL without its value", dueSpent("CALL 1 5; TELL 1; MARK_OF 0; SET 1 7; RETURN 1", 2, 0, 0).number(5), 5);
        due("a CALL that comes back", dueSpent("CALL 1 5; TELL 1; MARK_OF 0; RETURN 1", 2, 0, 0).number(5), 1);
    }

    private static void dueNotSpent(String text, int n, int end, int finishes) {
        Stair stair = ran("SET 1 1; SET 2 2");
        due(text + ": steps", again(stair, text, n), n);
        due(text + ": end", stair.end(), end);
        due(text + ": finishing parts", stair.status(5), finishes);
    }

    private static void testNotSpent() {
        says("Where there is none left the run is SPENT");
        dueNotSpent("TELL 1", 1, PLAINLY, 0);
        dueNotSpent("RETURN 1", 1, BY_RETURN, 0);
        dueNotSpent("THROW", 1, BY_FAILURE, 0);
        dueNotSpent("OPEN; FINISH; CLOSE", 1, PLAINLY, 1);
        dueNotSpent("OPEN; THROW; FINISH; CLOSE", 2, BY_FAILURE, 1);
        dueNotSpent("OPEN ALL; THROW; TAKER; FINISH; CLOSE", 2, PLAINLY, 1);
        dueNotSpent("IF 1 2; TELL 1; END", 2, PLAINLY, 0);
        dueNotSpent("LOOP 1; END", 2, PLAINLY, 0);
        dueNotSpent("LOOP 1; BREAK; END", 2, PLAINLY, 0);
        dueNotSpent("CALL 1 1; MARK_OF 0; OPEN; FINISH; CLOSE", 2, PLAINLY, 1);
        due("an empty routine", ran("").end(), PLAINLY);
    }

    private static String times(int n, String text) {
        return text.repeat(n);
    }

    private static Stair dueDepth(String text, int end, int depth) {
        String what = text.length() < 100 ? text : text.substring(0, 60) + " .. " + text.substring(text.length() - 20);
        Stair stair = ran("SET 1 1; SET 2 2; LONG 3 1000000");
        again(stair, text);
        due(what + ": end", stair.end(), end);
        due(what + ": depth", stair.depth(), depth);
        return stair;
    }

    private static void testTwoHundredOpen() {
        says("A BLOCK or routine that is worked is OPEN");
        String[] blocks = {"OPEN; ", "IF 1 2; ", "LOOP 3; "};
        for (String block : blocks) {
            due(block + "199 deep", dueDepth(times(198, block) + "RETURN 2", BY_RETURN, 199).result(), 2);
            due(block + "200 deep", dueDepth(times(199, block) + "RETURN 2", BY_RETURN, 200).result(), 2);
            dueDepth(times(200, block) + "RETURN 2", TOO_DEEP, 200);
        }
        dueDepth(times(199, "OPEN; FINISH; ") + "TELL 1", PLAINLY, 200);
        dueDepth(times(200, "OPEN; FINISH; ") + "TELL 1", TOO_DEEP, 200);
        String takers = "SET 4 1; IF 1 5; ADD 1 1 4; OPEN ALL; THROW; TAKER; CALL 0 0";
        dueDepth("SET 5 67; " + takers, PLAINLY, 200);
        dueDepth("SET 5 68; " + takers, TOO_DEEP, 200);
        dueDepth(times(199, "OPEN; ") + "TELL 1; CALL 7 1", BY_FAILURE, 200);
        dueDepth(times(199, "OPEN; ") + "DIVIDE 1 1 0", BY_FAILURE, 200);
    }

    private static void testTooDeep() {
        says("where a 201st would be OPEN (its step is taken) the run is TOO DEEP");
        String[] blocks = {"OPEN", "IF 1 2", "IF 2 1", "LOOP 3", "LOOP 0", "CALL 1 1; MARK_OF 0"};
        String given = "SET 1 1; SET 2 2; SET 3 3";
        for (String block : blocks) {
            Stair stair = ran(given);
            String house = houseOf(stair);
            due(block + ": steps", again(stair, times(199, "OPEN; ") + block), 200);
            dueEnd(block, stair, TOO_DEEP, 0);
            due(block + ": depth", stair.depth(), 200);
            stair = ran(given);
            again(stair, times(199, "OPEN; ") + block);
            due(block + ": it did nothing", house.equals(houseOf(stair)) ? 1 : 0, 1);
            stair = ran(given);
            again(stair, times(198, "OPEN; ") + block);
            due(block + " as the 200th: end", stair.end(), PLAINLY);
            due(block + " as the 200th: depth", stair.depth(), 200);
        }
        Stair none = ran(times(199, "OPEN; ") + "CALL 1 1");
        dueFailure("a CALL of no routine is none that would be OPEN", none, NONE);
        due("its step is taken", none.status(2), 200);
    }

    private static void testTooDeepByCalls() {
        says("A BLOCK or routine that is worked is OPEN; where a 201st would be OPEN (its step is taken) the run is TOO DEEP");
        Stair stair = new Stair();
        due("routines alone", again(stair, "CALL 0 1"), 200);
        dueEnd("routines alone", stair, TOO_DEEP, 0);
        due("routines alone: depth", stair.depth(), 200);
        String turns = "IF 1 2; ADD 1 1 3; CALL 0 0; END";
        stair = ran("SET 2 99; SET 3 1");
        due("100 routines with an IF each", again(stair, turns), 99 * 3 + 1);
        due("100 routines with an IF each: end", stair.end(), PLAINLY);
        due("100 routines with an IF each: depth", stair.depth(), 200);
        again(stair, "SET 1 0; SET 2 100");
        due("one more", again(stair, turns), 300);
        due("one more: end", stair.end(), TOO_DEEP);
        due("one more: depth", stair.depth(), 200);
        due("one more: NUMBER 1", stair.number(1), 100);
    }

    private static void testTooDeepEndsAtOnce() {
        says("it ends at once, likewise.");
        String deep = "OPEN -1; CALL 1 5; TAKER; TELL 1; FINISH; TELL 2; CLOSE; TELL 3; MARK_OF 0; "
            + "OPEN -1; ADD 5 5 6; CALL 1 5; TAKER; TELL 1; FINISH; TELL 2; CLOSE";
        Stair stair = ran("SET 6 1");
        due("steps", again(stair, deep), 2 + 3 * 99);
        dueEnd("TOO DEEP", stair, TOO_DEEP, 0);
        dueOutputs("no TAKER's part, no finishing part", stair);
        dueFinished("no finishing part", stair);
        due("taken", stair.status(7), 0);
        due("depth", stair.depth(), 200);
        due("what was changed stays", stair.number(5), 99);
        stair = ran(times(198, "OPEN -1; ") + "OPEN -1; THROW; TAKER; OPEN; CLOSE; FINISH; TELL 1; CLOSE");
        due("in a TAKER's part", stair.end(), TOO_DEEP);
        due("in a TAKER's part: taken", stair.status(7), 1);
        dueFinished("in a TAKER's part", stair);
        stair = ran(times(198, "OPEN -1; ") + "OPEN -1; THROW; FINISH; TELL 1; OPEN; CLOSE; TELL 1; CLOSE");
        due("in a finishing part", stair.end(), TOO_DEEP);
        dueOutputs("in a finishing part", stair, 0);
        dueFinished("in a finishing part", stair, 199);
        again(stair, "TELL 1");
        dueEnd("the next run", stair, PLAINLY, 0);
        due("the next run: depth", stair.depth(), 1);
    }

    private static void testItsStepIsTaken() {
        says("(its step is taken)");
        String deep = times(200, "OPEN; ");
        Stair stair = new Stair();
        due("200 steps", again(stair, deep, 200), 200);
        due("the 200th is the step of the 201st", stair.end(), TOO_DEEP);
        due("199 steps", again(stair, deep, 199), 199);
        due("none for the 201st", stair.end(), SPENT);
        due("none for the 201st: depth", stair.depth(), 200);
        due("steps of both", stair.status(2), 399);
    }

    private static void testWhatIsOpen() {
        says("an IF also when its part is not worked.)");
        dueDepth("IF 2 1; END", PLAINLY, 2);
        dueDepth("IF 2 1; OPEN; OPEN; END", PLAINLY, 2);
        dueDepth("LOOP 0; END", PLAINLY, 2);
        says("a routine from its CALL, or the run's beginning, on;");
        dueDepth("", PLAINLY, 1);
        dueDepth("TELL 1", PLAINLY, 1);
        dueDepth("CALL 1 1; MARK_OF 0", PLAINLY, 2);
        dueDepth("CALL 1 1; CALL 1 1; MARK_OF 0", PLAINLY, 2);
        dueDepth("CALL 1 1; MARK_OF 0; CALL 2 1; MARK_OF 0", PLAINLY, 3);
        dueDepth("CALL 7 1", BY_FAILURE, 1);
    }

    private static void testOpenUntilFinished() {
        says("(A trial is OPEN until its finishing part is over or not worked;");
        dueDepth("OPEN; IF 2 1; END; CLOSE", PLAINLY, 3);
        dueDepth("OPEN ALL; THROW; TAKER; IF 2 1; END; CLOSE", PLAINLY, 3);
        dueDepth("OPEN; FINISH; IF 2 1; END; CLOSE", PLAINLY, 3);
        dueDepth("OPEN ALL; THROW; TAKER; FINISH; IF 2 1; END; CLOSE", PLAINLY, 3);
        dueDepth("OPEN; RETURN 1; FINISH; IF 2 1; END; CLOSE", BY_RETURN, 3);
        dueDepth("OPEN; CLOSE; IF 2 1; END", PLAINLY, 2);
        dueDepth("OPEN; FINISH; CLOSE; IF 2 1; END", PLAINLY, 2);
        dueDepth("OPEN ALL; THROW; TAKER; CLOSE; IF 2 1; END", PLAINLY, 2);
        dueDepth("OPEN ALL; OPEN; OPEN; THROW; CLOSE; CLOSE; TAKER; OPEN; CLOSE; CLOSE", PLAINLY, 4);
        dueDepth("OPEN ALL; OPEN; OPEN; FINISH; THROW; CLOSE; CLOSE; TAKER; OPEN; OPEN; OPEN; CLOSE; CLOSE; CLOSE; CLOSE", PLAINLY, 5);
    }

    /** 90 times one after the other: what was OPEN and is over would add up. */
    private static void testOpenNoMore() {
        says("where a 201st would be OPEN");
        String[] parts = {"OPEN; CLOSE", "OPEN; FINISH; CLOSE", "OPEN ALL; THROW; TAKER; CLOSE", "IF 1 2; END", "IF 2 1; END", "LOOP 0; END",
            "CALL 1 6", "CALL 2 6", "CALL 3 6", "OPEN ALL; CALL 4 6; TAKER; CLOSE", "SET 4 1; LOOP 4; OPEN; IF 1 2; BREAK; END; CLOSE; END",
            "SET 4 1; LOOP 4; OPEN; IF 1 2; AGAIN; END; FINISH; CLOSE; END", "OPEN ALL; OPEN; IF 1 2; OPEN; THROW; CLOSE; END; CLOSE; TAKER; CLOSE",
            "OPEN ALL; OPEN; THROW; FINISH; IF 1 2; THROW; END; CLOSE; TAKER; CLOSE"};
        String routines = "; MARK_OF 0; IF 1 2; END; MARK_OF 0; OPEN; IF 1 2; RETURN 1; END; FINISH; RETURN 2; CLOSE; "
            + "MARK_OF 0; OPEN; IF 1 2; BREAK; MARK_OF 0; OPEN; IF 1 2; THROW; END; CLOSE";
        for (String part : parts) {
            Stair stair = ran("SET 1 1; SET 2 2; SET 3 90");
            again(stair, "LOOP 3; " + part + "; END; TELL 2" + routines);
            dueEnd(part, stair, PLAINLY, 0);
            dueOutputs(part, stair, 2);
            due(part + ": not SPENT", stair.number(3), 0);
            due(part + ": depth is low", stair.depth() <= 6 ? 1 : 0, 1);
        }
    }
}
