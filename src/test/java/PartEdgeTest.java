import java.io.IOException;

/** The boundary cases of "Terms": failures, ROUTINES, PARTS and TO WORK a part, sentence by sentence. */
final class PartEdgeTest extends EdgeBase {
    public static void main(String[] args) throws IOException {
        begin(args);
        testThrow();
        testInstead();
        testInsteadWithoutTaker();
        testMarkOrCall();
        testRoutines();
        testWhatBeginsABlock();
        testTaker();
        testFinish();
        testClose();
        testEnd();
        testThoseOfNoBlock();
        testUnended();
        testParts();
        testEmptyParts();
        testNothingMore();
        testIf();
        testLoop();
        testLoopLeft();
        close();
    }

    private static final int[] UNITS = {0, 4, -4, LEAST_INT, MOST_INT - 3};

    private static void testThrow() {
        says("22 THROW: fails with own kind a & 3.");
        for (int kind = 0; kind < 4; kind++) {
            for (int unit : UNITS) {
                dueToFail("THROW " + (kind + unit) + " 2 3; TELL 1", kind, 1);
            }
            dueToLeaveAll("SET 1 5", "THROW " + kind, kind);
        }
        says("23 THROW NOTHING: fails with NONE.");
        dueToFail("THROW_NOTHING 1 2 3; TELL 1", NONE, 1);
        dueToLeaveAll("SET 1 5", "THROW_NOTHING", NONE);
    }

    private static void dueCauses(String text, int kind, int... causes) {
        Stair stair = new Stair();
        again(stair, text);
        dueFailure(text, stair, kind, causes);
    }

    private static void testInstead() {
        says("24 INSTEAD: fails with own kind a & 3");
        for (int kind = 0; kind < 4; kind++) {
            for (int unit : UNITS) {
                dueCauses("OPEN ALL; THROW_NOTHING; TAKER; INSTEAD " + (kind + unit), kind, NONE);
            }
        }
        says("its CAUSE is the failure that the innermost trial took whose TAKER is at work");
        dueCauses("OPEN ALL; THROW FIRE; TAKER; OPEN ALL; THROW FLASH; TAKER; INSTEAD THEFT", THEFT, FLASH);
        dueCauses("OPEN ALL; THROW FIRE; TAKER; OPEN ALL; INSTEAD FLASH; TAKER; INSTEAD THEFT", THEFT, FLASH, FIRE);
        dueCauses("OPEN ALL; THROW FIRE; TAKER; OPEN ALL; THROW FLASH; TAKER; CLOSE; INSTEAD THEFT", THEFT, FIRE);
        dueCauses("OPEN ALL; THROW FIRE; TAKER; OPEN; INSTEAD THEFT; TAKER; CLOSE", THEFT, FIRE);
        dueCauses("OPEN ALL; THROW FIRE; TAKER; OPEN; FINISH; INSTEAD THEFT; CLOSE", THEFT, FIRE);
        dueCauses("OPEN ALL; THROW FIRE; TAKER; OPEN ALL; THROW FLASH; TAKER; FINISH; INSTEAD THEFT", THEFT, FIRE);
        dueCauses("OPEN ALL; OPEN; THROW FIRE; FINISH; CLOSE; TAKER; INSTEAD THEFT", THEFT, FIRE);
        dueCauses("SET 1 1; OPEN ALL; THROW FIRE; TAKER; LOOP 1; IF 1 2; END; SET 2 1; IF 1 2; INSTEAD THEFT", THEFT, FIRE);
        says("(of this routine, or of those that wait for it)");
        dueCauses("OPEN ALL; THROW FIRE; TAKER; CALL 1 1; MARK_OF 0; INSTEAD THEFT", THEFT, FIRE);
        dueCauses("OPEN ALL; THROW FIRE; TAKER; CALL 1 1; MARK_OF 0; CALL 2 1; MARK_OF 0; INSTEAD THEFT", THEFT, FIRE);
        dueCauses("OPEN ALL; THROW FIRE; TAKER; CALL 1 1; MARK_OF 0; OPEN ALL; THROW FLASH; TAKER; INSTEAD THEFT", THEFT, FLASH);
        dueCauses("OPEN ALL; THROW FIRE; TAKER; CALL 1 1; MARK_OF 0; OPEN ALL; THROW FLASH; TAKER; CLOSE; INSTEAD THEFT", THEFT, FIRE);
        dueCauses("OPEN ALL; CALL 1 1; TAKER; INSTEAD ALARM; MARK_OF 0; OPEN ALL; THROW FLASH; TAKER; INSTEAD THEFT", ALARM, THEFT, FLASH);
        dueCauses("OPEN 8; CALL 1 1; TAKER; INSTEAD ALARM; MARK_OF 0; OPEN ALL; THROW FLASH; TAKER; THROW THEFT", ALARM, THEFT);
    }

    private static void testInsteadWithoutTaker() {
        says("none when no TAKER is.");
        dueCauses("INSTEAD FIRE", FIRE);
        dueCauses("OPEN; INSTEAD FIRE; TAKER; CLOSE", FIRE);
        dueCauses("OPEN; FINISH; INSTEAD FIRE; CLOSE", FIRE);
        dueCauses("OPEN; THROW THEFT; FINISH; INSTEAD FIRE; CLOSE", FIRE);
        dueCauses("OPEN ALL; THROW THEFT; TAKER; CLOSE; INSTEAD FIRE", FIRE);
        dueCauses("OPEN ALL; THROW THEFT; TAKER; FINISH; INSTEAD FIRE; CLOSE", FIRE);
        dueCauses("OPEN ALL; THROW THEFT; TAKER; RETURN; FINISH; INSTEAD FIRE; CLOSE", FIRE);
        dueCauses("CALL 1 1; INSTEAD FIRE; MARK_OF 0; OPEN ALL; THROW THEFT; TAKER; RETURN", FIRE);
        Stair stair = ran("OPEN ALL; THROW THEFT; TAKER; INSTEAD FLASH");
        again(stair, "INSTEAD FIRE");
        dueFailure("no TAKER of an earlier run", stair, FIRE);
    }

    private static void testMarkOrCall() {
        says("35 ROUTINE (with c even a mark; with c odd a CALL).");
        int[] even = {0, 2, -2, LEAST_INT, MOST_INT - 1};
        int[] odd = {1, 3, -1, LEAST_INT + 1, MOST_INT};
        for (int c : even) {
            due("c " + c, written("ROUTINE 5 5 " + c).status(1), 1);
            duePlain("TELL 1; ROUTINE 5 5 " + c + "; TELL 2", 1, 1);
        }
        for (int c : odd) {
            due("c " + c, written("ROUTINE 5 5 " + c).status(1), 0);
            duePlain("TELL 1; ROUTINE 1 5 " + c + "; TELL 5; MARK_OF 0; TELL 2; RETURN 3", 5, 1, 2, 3);
        }
    }

    private static void testRoutines() {
        says("a routine 0, 1, .. begins behind it, in their order, and ends before the next MARK or with the script.");
        String script = "MARK_OF 0; SET 1 1; TELL 1; MARK_OF 0; MARK_OF 2; SET 1 2; TELL 1; MARK_OF -2";
        Stair stair = written(script);
        due("routines", stair.status(1), 4);
        due("routine 0", stair.run(0, 9), 2);
        dueOutputs("routine 0", stair, 1);
        due("routine 1, between two MARKS", stair.run(1, 9), 0);
        dueEnd("routine 1", stair, PLAINLY, 0);
        due("routine 2", stair.run(2, 9), 2);
        dueOutputs("routine 2", stair, 2);
        due("routine 3, behind which the script ends", stair.run(3, 9), 0);
        due("routine 4", stair.run(4, 9), -1);
        stair.step(TELL, 1, 0, 0);
        due("routine 3, longer now", stair.run(3, 9), 1);
        stair.step(ROUTINE, 0, 0, 0);
        stair.step(TELL, 1, 0, 0);
        due("routine 3, as long as it was", stair.run(3, 9), 1);
        Stair many = new Stair();
        for (int i = 0; i < 120; i++) {
            add(many, "MARK_OF 0; SET 1 " + i + "; MARK_OF 0");
        }
        due("routines", many.status(1), 240);
        due("routine 238", many.run(238, 9), 1);
        due("routine 238: the last but one", many.number(1), 119);
        due("routine 239, the last", many.run(239, 9), 0);
        due("routine 240", many.run(240, 9), -1);
        due("routine 160", many.run(160, 9), 1);
        due("routine 160: the 81st SET", many.number(1), 80);
        says("Steps before the first MARK belong to none.");
        Stair before = written("SET 1 5; OPEN ALL; LOOP 1; MARK_OF 0; TAKER; TELL 1; END");
        due("steps", before.status(0), 7);
        due("routines", before.status(1), 1);
        due("steps of routine 0", before.run(0, 9), 3);
        dueOutputs("routine 0", before, 0);
        due("no MARK at all", written("TELL 1; CALL 0 0").run(0, 9), -1);
    }

    private static void testWhatBeginsABlock() {
        says("OPEN, LOOP and IF begin a BLOCK.");
        says("The latest BLOCK that is begun and not ended yet is the INNERMOST.");
        duePlain("OPEN ALL; LOOP 1; TELL 2; END; THROW; TAKER; TELL 3; CLOSE; TELL 4", 7, 2, 3, 4);
        duePlain("OPEN ALL; IF 1 2; TELL 2; END; THROW; TAKER; TELL 3; CLOSE; TELL 4", 6, 2, 3, 4);
        duePlain("OPEN ALL; OPEN; TELL 2; CLOSE; THROW; TAKER; TELL 3; CLOSE; TELL 4", 6, 2, 3, 4);
        duePlain("OPEN ALL; OPEN ALL; THROW; TAKER; TELL 2; CLOSE; THROW; TAKER; TELL 3; CLOSE; TELL 4", 7, 2, 3, 4);
        duePlain("IF 1 2; OPEN; CLOSE; LOOP 1; END; TELL 3; END; TELL 4", 6, 3, 4);
        duePlain("IF 2 1; OPEN; CLOSE; LOOP 1; END; TELL 3; END; TELL 4", 2, 4);
    }

    private static void testTaker() {
        says("A TAKER belongs to the INNERMOST one, if that is of an OPEN that has no TAKER and no FINISH");
        duePlain("OPEN ALL; THROW; TAKER; TELL 1; TAKER; TELL 2; CLOSE", 5, 1, 2);
        dueToFail("OPEN ALL; THROW; FINISH; TAKER; TELL 2; CLOSE", ALARM, 4, 2);
        duePlain("OPEN ALL; THROW; TAKER; FINISH; TAKER; TELL 2; CLOSE", 4, 2);
        dueToFail("OPEN ALL; LOOP 1; THROW; TAKER; TELL 2; END; CLOSE", ALARM, 3);
        dueToFail("OPEN ALL; IF 1 2; THROW; TAKER; TELL 2; END; CLOSE", ALARM, 3);
        duePlain("OPEN ALL; IF 1 2; TAKER; END; THROW; TAKER; TELL 2; CLOSE", 5, 2);
        dueToFail("OPEN ALL; CLOSE; TAKER; THROW", ALARM, 3);
        duePlain("OPEN ALL; OPEN; CLOSE; THROW; TAKER; TELL 2; CLOSE", 4, 2);
        dueToFail("OPEN ALL; OPEN; THROW; TAKER; TELL 1; CLOSE; CLOSE", ALARM, 3);
        duePlain("TAKER; TELL 1", 2, 1);
    }

    private static void testFinish() {
        says("a FINISH, if it is of an OPEN that has no FINISH");
        dueFinished("a second one", dueTrace("OPEN; FINISH; TELL 1; FINISH; TELL 2; CLOSE", 4, 1, 2), 1);
        dueToFail("OPEN; THROW; FINISH; TELL 1; FINISH; TELL 2; CLOSE", ALARM, 5, 1, 2);
        dueToFail("OPEN; THROW; FINISH; FINISH; TELL 2; FINISH; CLOSE", ALARM, 5, 2);
        dueFinished("in a LOOP", dueTrace("OPEN; LOOP 1; FINISH; TELL 2; END; CLOSE", 5, 2));
        dueFinished("in an IF", dueTrace("OPEN; IF 1 2; FINISH; TELL 2; END; CLOSE", 4, 2));
        dueFinished("behind a CLOSE", dueTrace("OPEN; CLOSE; FINISH; TELL 2", 3, 2));
        dueFinished("of none", dueTrace("FINISH; TELL 2", 2, 2));
        dueFinished("behind a TAKER", dueTrace("OPEN; TAKER; TELL 1; FINISH; TELL 2; CLOSE", 2, 2), 1);
        dueFinished("of the inner one", dueTrace("OPEN; OPEN; FINISH; TELL 2; CLOSE; CLOSE", 3, 2), 2);
        dueFinished("behind the inner one", dueTrace("OPEN; OPEN; CLOSE; FINISH; TELL 2; CLOSE", 3, 2), 1);
        duePlain("OPEN; FINISH; FINISH; CLOSE; TELL 1", 3, 1);
    }

    private static void testClose() {
        says("a CLOSE ends it, if it is of an OPEN");
        duePlain("OPEN ALL; THROW; TAKER; TELL 1; CLOSE; TELL 2", 4, 1, 2);
        duePlain("LOOP 2; CLOSE; TELL 2; END; TELL 3", 8, 1, 0, 3);
        duePlain("IF 2 1; CLOSE; TELL 2; END; TELL 3", 2, 3);
        duePlain("OPEN ALL; LOOP 1; CLOSE; END; THROW; TAKER; TELL 2; CLOSE; TELL 3", 7, 2, 3);
        duePlain("CLOSE; TELL 1", 2, 1);
        duePlain("OPEN; CLOSE; CLOSE; TELL 1", 3, 1);
        duePlain("OPEN ALL; OPEN; CLOSE; CLOSE; CLOSE; TELL 1", 4, 1);
    }

    private static void testEnd() {
        says("an END, if it is of a LOOP or IF.");
        duePlain("LOOP 1; TELL 2; END; TELL 3", 4, 2, 3);
        duePlain("IF 2 1; TELL 2; END; TELL 3", 2, 3);
        duePlain("OPEN ALL; END; THROW; TAKER; TELL 2; CLOSE; TELL 3", 5, 2, 3);
        duePlain("IF 2 1; OPEN; END; CLOSE; TELL 2; END; TELL 3", 2, 3);
        duePlain("END; TELL 1", 2, 1);
        duePlain("LOOP 1; END; END; TELL 1", 4, 0);
        duePlain("OPEN ALL; THROW; TAKER; END; TELL 1; FINISH; END; TELL 2; CLOSE", 6, 1, 2);
    }

    private static void testThoseOfNoBlock() {
        says("All others of these four do nothing, but they take a step.");
        String[] ops = {"TAKER", "FINISH", "CLOSE", "END"};
        for (String op : ops) {
            duePlain(op + " 1 2 3", 1);
            duePlain(op + "; " + op + "; TELL 1; " + op, 4, 1);
            due(op + " with no step left", again(new Stair(), "TELL 1; " + op, 1), 1);
            Stair stair = new Stair();
            again(stair, "TELL 1; " + op, 1);
            due(op + " with no step left: end", stair.end(), SPENT);
            dueToLeaveAll("SET 1 1", op + " 1 1 1; THROW THEFT", THEFT);
        }
    }

    private static void testUnended() {
        says("BLOCKS that are not ended end with their routine.");
        duePlain("LOOP 2; TELL 2", 5, 1, 0);
        duePlain("IF 2 1; TELL 2", 1);
        duePlain("IF 1 2; TELL 2", 2, 2);
        duePlain("OPEN ALL; THROW; TAKER; TELL 1", 3, 1);
        duePlain("OPEN ALL; OPEN; THROW; FINISH; TELL 1; CLOSE; TAKER; TELL 2", 5, 1, 2);
        dueFinished("FINISH", dueTrace("OPEN; TELL 1; FINISH; TELL 2", 3, 1, 2), 1);
        duePlain("OPEN; FINISH; LOOP 1; OPEN; FINISH; IF 1 2; TELL 3", 6, 3);
        dueToFail("CALL 1 1; TELL 3; MARK_OF 0; OPEN ALL; THROW; MARK_OF 0; TAKER; TELL 1; END; CLOSE", ALARM, 3);
    }

    private static void testParts() {
        says("its BODY goes from behind the OPEN to its TAKER, else its FINISH, else its end");
        says("its TAKER's part from behind the TAKER to its FINISH, else its end");
        says("its FINISHING part from behind the FINISH to its end.");
        String[] ends = {"; CLOSE; TELL 4", ""};
        for (String end : ends) {
            int more = end.isEmpty() ? 0 : 1;
            long[][] tails = more == 1 ? new long[][] {{1, 4}, {1, 3, 4}, {2, 4}, {2, 3, 4}} : new long[][] {{1}, {1, 3}, {2}, {2, 3}};
            duePlain("OPEN ALL; TELL 1" + end, 2 + more, tails[0]);
            duePlain("OPEN ALL; TELL 1; TAKER; TELL 2" + end, 2 + more, tails[0]);
            duePlain("OPEN ALL; TELL 1; FINISH; TELL 3" + end, 3 + more, tails[1]);
            duePlain("OPEN ALL; TELL 1; TAKER; TELL 2; FINISH; TELL 3" + end, 3 + more, tails[1]);
            duePlain("OPEN ALL; THROW; TAKER; TELL 2" + end, 3 + more, tails[2]);
            duePlain("OPEN ALL; THROW; TAKER; TELL 2; FINISH; TELL 3" + end, 4 + more, tails[3]);
            dueToFail("OPEN ALL; THROW; FINISH; TELL 3" + end, ALARM, 3, 3);
            dueToFail("OPEN ALL; THROW" + end, ALARM, 2);
        }
    }

    private static void testEmptyParts() {
        says("TO WORK a part: its steps in order");
        duePlain("", 0);
        duePlain("OPEN; CLOSE; TELL 1", 2, 1);
        duePlain("OPEN; TAKER; CLOSE; TELL 1", 2, 1);
        dueFinished("FINISH alone", dueTrace("OPEN; FINISH; CLOSE; TELL 1", 2, 1), 1);
        duePlain("OPEN; TAKER; FINISH; CLOSE; TELL 1", 2, 1);
        duePlain("OPEN ALL; THROW; TAKER; CLOSE; TELL 1", 3, 1);
        dueFinished("an empty TAKER's part", dueTrace("OPEN ALL; THROW; TAKER; FINISH; CLOSE; TELL 1", 3, 1), 1);
        duePlain("IF 1 2; END; TELL 1", 2, 1);
        duePlain("LOOP 3; END; TELL 3", 5, 0);
        duePlain("CALL 1 3; TELL 3; MARK_OF 0", 2, 0);
        duePlain("OPEN", 1);
        duePlain("OPEN; FINISH", 1);
        duePlain("LOOP 2", 3);
        duePlain("IF 1 2", 1);
    }

    private static void testNothingMore() {
        says("Nothing more of a part is worked when a step of it failed or left.");
        dueToFail("THROW; TELL 1", ALARM, 1);
        dueReturn("RETURN 5; TELL 1", 5, 1);
        dueReturn("BREAK; TELL 1", 0, 1);
        dueReturn("AGAIN; TELL 1", 0, 1);
        duePlain("LOOP 2; BREAK; TELL 1; END; TELL 2", 3, 1);
        duePlain("LOOP 2; AGAIN; TELL 1; END; TELL 2", 6, 0);
        duePlain("OPEN ALL; OPEN; IF 1 2; LOOP 3; THROW; TELL 1; END; TELL 1; END; TELL 1; CLOSE; TELL 1; TAKER; TELL 2", 6, 2);
        dueReturn("OPEN; IF 1 2; LOOP 3; RETURN 3; TELL 1; END; TELL 1; END; TELL 1; CLOSE; TELL 1", 2, 4);
        duePlain("CALL 1 4; TELL 4; MARK_OF 0; OPEN; RETURN 5; TELL 1; CLOSE; TELL 1", 4, 5);
    }

    private static void testIf() {
        says("IF: is na less than nb (with signs), its part is worked, and what comes of it comes of the IF; else it is over plainly.");
        long[] order = {LEAST, -4294967296L, -1, 0, 1, 4294967295L, 4294967296L, MOST};
        for (int i = 0; i < order.length; i++) {
            for (int j = 0; j < order.length; j++) {
                Stair stair = ran("LONG 1 " + order[i] + "; LONG 2 " + order[j]);
                again(stair, "IF 1 2; TELL 1; END; TELL 2");
                due("IF " + order[i] + " < " + order[j], stair.status(4), i < j ? 2 : 1);
            }
        }
        duePlain("IF 3 3; TELL 1; END; TELL 2", 2, 2);
        duePlain("IF 9 -6; TELL 1; END; TELL 2", 3, 1, 2);
        duePlain("IF 10 -7; TELL 1; END; TELL 2", 2, 2);
        dueToFail("IF 1 2; THROW FIRE; END; TELL 1", FIRE, 2);
        dueReturn("IF 1 2; RETURN 6; END; TELL 1", 6, 2);
        duePlain("LOOP 2; IF 1 3; BREAK; END; TELL 1; END; TELL 2", 4, 1);
        duePlain("LOOP 2; IF 1 3; AGAIN; END; TELL 1; END; TELL 2", 8, 0);
    }

    private static void testLoop() {
        says("LOOP: as long as na is above 0: na is 1 less, its part is worked");
        duePlain("LOOP 0; TELL 1; END; TELL 0", 2, 0);
        duePlain("SET 1 -1; LOOP 1; TELL 2; END; TELL 1", 3, -1);
        duePlain("LOOP 1; TELL 1; END; TELL 1", 4, 0, 0);
        duePlain("LOOP 3; TELL 3; END; TELL 3", 8, 2, 1, 0, 0);
        duePlain("LOOP 3; SET 3 0; END; TELL 3", 4, 0);
        duePlain("LOOP 3; SET 3 -5; END; TELL 3", 4, -5);
        duePlain("LOOP 1; LOOP 1; TELL 2; END; END; TELL 1", 4, 0);
        Stair stair = ran("LONG 1 " + LEAST + "; LONG 2 " + MOST + "; LONG 3 4294967296");
        again(stair, "LOOP 1; TELL 1; END; LOOP 2; TELL 2; BREAK; END; LOOP 3; TELL 3; BREAK; END");
        dueOutputs("all of the long counts", stair, MOST - 1, 4294967295L);
        due("the least is not above 0", stair.number(1), LEAST);
    }

    private static void testLoopLeft() {
        says("failed, or left by RETURN: that comes of the LOOP.");
        dueToFail("LOOP 3; THROW FLASH; END; TELL 1", FLASH, 2);
        dueReturn("LOOP 3; RETURN 3; END; TELL 1", 2, 2);
        says("BREAK: the LOOP is over plainly.");
        duePlain("LOOP 3; BREAK; END; TELL 3", 3, 2);
        duePlain("LOOP 2; LOOP 3; BREAK; END; TELL 3; END; TELL 2", 10, 2, 1, 0);
        says("Plainly, or AGAIN: it looks again.");
        duePlain("LOOP 3; AGAIN; TELL 1; END; TELL 3", 8, 0);
        duePlain("LOOP 2; LOOP 3; AGAIN; END; TELL 3; END; TELL 2", 14, 0, 0, 0);
        duePlain("LOOP 1; OPEN; AGAIN; FINISH; TELL 2; CLOSE; TELL 3; END; TELL 4", 6, 2, 4);
    }
}
