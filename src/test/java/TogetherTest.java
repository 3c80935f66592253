import java.io.IOException;

/** What several sentences of "Terms" say together: each group quotes those that its cases rest on. */
final class TogetherTest extends EdgeBase {
    public static void main(String[] args) throws IOException {
        begin(args);
        testFailureInAFinishingPart();
        testFailureTakenInAFinishingPart();
        testEachFailureInAFinishingPart();
        testCallInAFinishingPart();
        testReturnOutOfATaker();
        testReturnInARoutineOfATaker();
        testBreakOutOfATrial();
        testBreakInAFinishingPart();
        testBreakInARoutineOfALoop();
        testNumberOfALoop();
        testCallThatFails();
        testCallsThatFailOneInTheOther();
        testInsteadInARoutineOfATaker();
        testInsteadInFinishingParts();
        testInsteadByLevels();
        testThingsInTrials();
        testSpentInside();
        testTooDeepInside();
        testRunsBehindOneAnother();
        close();
    }

    private static void dueTaken(String what, Stair stair, int taken) {
        due(what + ": failures that were TAKEN", stair.status(7), taken);
    }

    private static void testFailureInAFinishingPart() {
        says("if that FAILED, this failure comes of the trial, and what came before is lost (a failure with its CAUSES, too)");
        says("If it failed with a kind that the trial takes (and it has a TAKER): the failure is TAKEN");
        duePlain("LOOP 2; OPEN 8; OPEN; BREAK; FINISH; THROW THEFT; CLOSE; TAKER; TELL 2; CLOSE; END; TELL 5", 14, 1, 0, 5);
        duePlain("LOOP 2; OPEN 8; OPEN; AGAIN; FINISH; THROW THEFT; CLOSE; TAKER; BREAK; CLOSE; END; TELL 2", 7, 1);
        duePlain("OPEN 8; OPEN; RETURN 5; FINISH; THROW THEFT; CLOSE; TAKER; TELL 3; CLOSE; TELL 4", 6, 3, 4);
        duePlain("OPEN 8; OPEN; TELL 5; FINISH; THROW THEFT; CLOSE; TELL 6; TAKER; TELL 3; CLOSE; TELL 4", 6, 5, 3, 4);
        dueToFail("OPEN; OPEN; THROW ALARM; FINISH; THROW FIRE; CLOSE; FINISH; THROW FLASH; CLOSE", FLASH, 5);
        String lost = "OPEN ALL; OPEN ALL; THROW_NOTHING; TAKER; INSTEAD FIRE; FINISH; THROW THEFT; CLOSE; TAKER; INSTEAD FLASH";
        dueFailure("CAUSES of what is lost", dueTrace(lost, 6), FLASH, THEFT);
        String order = "OPEN; RETURN 5; FINISH; OPEN; THROW FLASH; FINISH; TELL 1; CLOSE; TELL 2; CLOSE; TELL 3";
        Stair stair = dueTrace(order, 5, 1);
        dueFailure("a finishing part in a finishing part", stair, FLASH);
        dueFinished("a finishing part in a finishing part", stair, 1, 4);
    }

    private static void testFailureTakenInAFinishingPart() {
        says("if it is over plainly or left in any way, what came before comes of the trial (a RETURN with its value as it was).");
        says("its TAKER's part is worked, and what comes of that comes in place of it.");
        String takes = "; FINISH; OPEN ALL; THROW FLASH; TAKER; TELL 1; CLOSE; CLOSE; TELL 2";
        dueToFail("OPEN; THROW THEFT" + takes, THEFT, 5, 1);
        dueReturn("OPEN; RETURN 5" + takes, 5, 5, 1);
        dueReturn("OPEN; BREAK" + takes, 0, 5, 1);
        duePlain("OPEN; TELL 4" + takes, 6, 4, 1, 2);
        Stair stair = dueTrace("OPEN ALL; THROW FIRE; TAKER; INSTEAD THEFT" + takes, 6, 1);
        dueFailure("the CAUSE that it had", stair, THEFT, FIRE);
        dueTaken("in the BODY and in the finishing part", stair, 2);
        dueReturn("OPEN; RETURN 5; FINISH; OPEN ALL; THROW; TAKER; RETURN 6; CLOSE; TELL 1; CLOSE", 5, 5);
    }

    private static void testEachFailureInAFinishingPart() {
        says("if that FAILED, this failure comes of the trial, and what came before is lost");
        says("failures are the script's own or those of the machine that works it.");
        String[] failing = {"THROW ALARM", "THROW FIRE", "THROW FLASH", "THROW THEFT", "DIVIDE 1 1 0", "GRID 1 1; GRID_LOOK 7 0 1",
            "LENGTH BYTES:0 1", "SET 6 -1; MAKE BYTES:0 6", "THING 1 HAMMER; RING 1 1 1",
            "THING 1 HAMMER; MAKE THINGS:0 1 1; PUT THINGS:0 0 1"};
        for (int kind = 0; kind < failing.length; kind++) {
            int took = failing[kind].split(";").length;
            String finish = "; FINISH; " + failing[kind] + "; CLOSE; TELL 1";
            dueToFail("OPEN; RETURN 5" + finish, kind, 2 + took);
            dueToFail("OPEN; THROW THEFT" + finish, kind, 2 + took);
            dueToFail("LOOP 2; OPEN; BREAK" + finish, kind, 3 + took);
            String taken = "OPEN " + (1 << kind) + "; OPEN; RETURN 5" + finish + "; TAKER; TELL 2; CLOSE; RETURN 3";
            dueReturn(taken, 3, 5 + took, 2);
        }
    }

    private static void testCallInAFinishingPart() {
        says("behind it nb is its value: that of its RETURN, 0 when it was over plainly.");
        says("if it is over plainly or left in any way, what came before comes of the trial (a RETURN with its value as it was).");
        dueReturn("OPEN; RETURN 5; FINISH; CALL 1 4; TELL 4; CLOSE; MARK_OF 0; RETURN 6", 5, 5, 6);
        dueReturn("OPEN; RETURN 5; FINISH; CALL 1 4; TELL 4; CLOSE; MARK_OF 0; BREAK", 5, 5, 0);
        dueReturn("OPEN; BREAK; FINISH; CALL 1 4; TELL 4; CLOSE; MARK_OF 0; RETURN 6", 0, 5, 6);
        duePlain("CALL 1 4; TELL 4; MARK_OF 0; OPEN; RETURN 5; FINISH; SET 4 9; TELL 4; CLOSE", 6, 9, 5);
        duePlain("CALL 1 4; TELL 4; MARK_OF 0; OPEN; RETURN 5; FINISH; CALL 2 4; TELL 4; CLOSE; MARK_OF 0; RETURN 6", 7, 6, 5);
        says("A failure of it is one of this step (what it changed stays).");
        dueToFail("OPEN; RETURN 5; FINISH; CALL 1 4; CLOSE; MARK_OF 0; TELL 6; THROW FIRE", FIRE, 5, 6);
        dueToFail("OPEN; RETURN 5; FINISH; CALL 7 4; CLOSE", NONE, 3);
        Stair stair = dueTrace("CALL 1 4; TELL 4; MARK_OF 0; OPEN; RETURN 5; FINISH; SET 6 9; DIVIDE 1 1 0", 5);
        dueFailure("the routine's RETURN is lost", stair, DIVISION);
        due("so NUMBER 4 gets no value", stair.number(4), 4);
        due("what the finishing part changed", stair.number(6), 9);
    }

    private static void testReturnOutOfATaker() {
        says("RETURN: the value is na, as it is then; the routine is over.");
        says("Then, in any case, its FINISHING part, if it has one, is worked");
        dueReturn("OPEN ALL; THROW; TAKER; SET 5 9; RETURN 5; FINISH; SET 5 8; TELL 5; RETURN 6; CLOSE; TELL 1", 9, 7, 8);
        dueReturn("OPEN; LOOP 3; IF 1 2; OPEN ALL; THROW; TAKER; RETURN 3; CLOSE; END; END; FINISH; TELL 3; CLOSE; TELL 4", 2, 7, 2);
        dueReturn("LOOP 3; OPEN ALL; DIVIDE 1 1 0; TAKER; RETURN 3; FINISH; LESS 3 3 3; CLOSE; END; TELL 3", 2, 5);
        String nested = "OPEN; OPEN ALL; OPEN 8; THROW; FINISH; TELL 1; CLOSE; TAKER; RETURN 5; FINISH; TELL 2; CLOSE; FINISH; TELL 3; CLOSE";
        Stair stair = dueTrace(nested, 8, 1, 2, 3);
        dueEnd(nested, stair, BY_RETURN, 5);
        dueFinished(nested, stair, 3, 2, 1);
        stair = dueTrace("OPEN ALL; OPEN; OPEN ALL; THROW; TAKER; RETURN 5; CLOSE; FINISH; THROW FIRE; CLOSE; TAKER; TELL 2; CLOSE; TELL 3", 8, 2, 3);
        dueEnd("a finishing part around fails", stair, PLAINLY, 0);
        dueTaken("a finishing part around fails", stair, 2);
    }

    private static void testReturnInARoutineOfATaker() {
        says("RETURN: the value is na, as it is then; the routine is over.");
        says("CALL: step 35 with c odd: the routine a is worked; behind it nb is its value");
        String left = "OPEN ALL; THROW FIRE; TAKER; CALL 1 4; TELL 4; INSTEAD THEFT; CLOSE; "
            + "MARK_OF 0; OPEN ALL; THROW FLASH; TAKER; RETURN 6; FINISH; TELL 1; CLOSE";
        Stair stair = dueTrace(left, 9, 1, 6);
        dueFailure("the TAKER that called is still at work, that which returned is not", stair, THEFT, FIRE);
        dueTaken(left, stair, 2);
        duePlain("OPEN ALL; THROW; TAKER; CALL 1 4; TELL 4; FINISH; TELL 5; CLOSE; TELL 3; MARK_OF 0; RETURN 6", 7, 6, 5, 3);
    }

    private static void testBreakOutOfATrial() {
        says("BREAK: the LOOP is over plainly. Plainly, or AGAIN: it looks again.");
        says("Then, in any case, its FINISHING part, if it has one, is worked");
        duePlain("LOOP 3; OPEN; TELL 3; BREAK; FINISH; TELL 4; CLOSE; TELL 5; END; TELL 6", 6, 2, 4, 6);
        duePlain("LOOP 3; OPEN ALL; THROW; TAKER; IF 1 2; BREAK; END; TELL 5; FINISH; TELL 4; CLOSE; END; TELL 6", 7, 4, 6);
        duePlain("LOOP 2; OPEN; LOOP 3; BREAK; END; TELL 3; FINISH; TELL 2; CLOSE; END", 13, 2, 1, 1, 0);
        duePlain("LOOP 3; OPEN; OPEN; OPEN; BREAK; FINISH; TELL 1; CLOSE; FINISH; TELL 2; CLOSE; FINISH; TELL 3; CLOSE; END; TELL 4",
            9, 1, 2, 2, 4);
        duePlain("OPEN ALL; THROW; TAKER; LOOP 2; BREAK; END; TELL 2; CLOSE; TELL 5", 6, 1, 5);
        duePlain("LOOP 2; OPEN; BREAK; FINISH; TELL 2", 4, 1);
        duePlain("LOOP 2; OPEN; AGAIN; FINISH; TELL 2", 9, 1, 0);
        duePlain("LOOP 1; OPEN ALL; LOOP 2; THROW; END; TAKER; BREAK; CLOSE; TELL 5; END; TELL 2", 6, 1);
    }

    private static void testBreakInAFinishingPart() {
        says("BREAK: the LOOP is over plainly. Plainly, or AGAIN: it looks again.");
        says("if it is over plainly or left in any way, what came before comes of the trial");
        duePlain("LOOP 2; OPEN; TELL 2; FINISH; BREAK; CLOSE; TELL 5; END; TELL 6", 12, 1, 5, 0, 5, 6);
        duePlain("LOOP 2; OPEN; BREAK; FINISH; LOOP 3; BREAK; END; TELL 3; CLOSE; TELL 5; END; TELL 6", 7, 2, 6);
        duePlain("LOOP 2; OPEN; AGAIN; FINISH; BREAK; CLOSE; TELL 5; END; TELL 2", 10, 0);
        duePlain("LOOP 2; OPEN; BREAK; FINISH; AGAIN; CLOSE; END; TELL 2", 5, 1);
        dueReturn("LOOP 2; OPEN; RETURN 5; FINISH; BREAK; CLOSE; END; TELL 2", 5, 4);
        dueToFail("LOOP 2; OPEN; THROW FIRE; FINISH; BREAK; CLOSE; END; TELL 2", FIRE, 4);
        duePlain("LOOP 2; OPEN; BREAK; FINISH; RETURN 5; CLOSE; END; TELL 2", 5, 1);
    }

    private static void testBreakInARoutineOfALoop() {
        says("BREAK and AGAIN that no LOOP of their routine is around: the routine is over as by a RETURN of 0.");
        says("Then, in any case, its FINISHING part, if it has one, is worked");
        String[] ways = {"BREAK", "AGAIN"};
        for (String way : ways) {
            duePlain("LOOP 2; CALL 1 4; TELL 4; END; MARK_OF 0; OPEN; " + way + "; FINISH; TELL 5; CLOSE; TELL 6", 13, 5, 0, 5, 0);
            duePlain("LOOP 1; OPEN; CALL 1 4; TELL 4; FINISH; TELL 3; CLOSE; END; MARK_OF 0; LOOP 0; END; " + way, 8, 0, 3);
            duePlain("LOOP 1; OPEN ALL; THROW; TAKER; CALL 1 4; TELL 4; CLOSE; END; MARK_OF 0; OPEN ALL; THROW; TAKER; " + way, 9, 0);
            dueReturn("CALL 1 4; OPEN; " + way + "; MARK_OF 0; LOOP 1; IF 2 3; RETURN 5", 0, 6);
        }
    }

    private static void testNumberOfALoop() {
        says("LOOP: as long as na is above 0: na is 1 less, its part is worked");
        duePlain("LOOP 2; OPEN; AGAIN; FINISH; SET 2 0; CLOSE; END; TELL 2", 6, 0);
        duePlain("LOOP 2; CALL 1 2; END; TELL 2; MARK_OF 0; RETURN 0", 5, 0);
        duePlain("LOOP 1; OPEN ALL; SET 1 9; THROW; TAKER; SET 1 -1; CLOSE; END; TELL 1", 7, -1);
        duePlain("LOOP 2; LOOP 2; TELL 2; END; END; TELL 2", 6, 0, 0);
        says("A step that fails leaves all as it was (but a CALL).");
        duePlain("LOOP 2; OPEN ALL; DIVIDE 2 2 0; TAKER; TELL 2; CLOSE; END", 9, 1, 0);
    }

    private static void testCallThatFails() {
        says("A failure of it is one of this step (what it changed stays).");
        says("If it failed with a kind that the trial takes (and it has a TAKER): the failure is TAKEN");
        String text = "OPEN 8; CALL 1 4; TELL 1; TAKER; TELL 4; TELL 5; FINISH; TELL 6; CLOSE; "
            + "MARK_OF 0; OPEN 1; SET 5 9; THROW THEFT; TAKER; TELL 1; FINISH; TELL 2; CLOSE";
        Stair stair = dueTrace(text, 9, 2, 4, 9, 6);
        dueEnd(text, stair, PLAINLY, 0);
        dueFinished(text, stair, 11, 1);
        dueTaken(text, stair, 1);
        duePlain("OPEN ALL; CALL 1 4; TAKER; LOOK THINGS:0 0 3; MARK 3 6; TELL 6; CLOSE; "
            + "MARK_OF 0; MAKE THINGS:0 1; THING 2 SAW 5; PUT THINGS:0 0 2; THROW", 9, 5);
        duePlain("LOOP 2; OPEN ALL; CALL 1 4; TELL 5; TAKER; AGAIN; CLOSE; TELL 5; END; TELL 4; MARK_OF 0; LOOP 3; THROW", 14, 4);
        dueToFail("OPEN 16; CALL 1 4; TAKER; TELL 1; FINISH; CALL 1 4; CLOSE; MARK_OF 0; TELL 5; THROW FIRE", FIRE, 7, 5, 5);
        duePlain("OPEN 64; CALL 1 4; TAKER; TELL 1; CLOSE; MARK_OF 0; OPEN; CALL 2 4; FINISH; TELL 2", 6, 2, 1);
    }

    private static void testCallsThatFailOneInTheOther() {
        says("A failure of it is one of this step (what it changed stays).");
        says("Then, in any case, its FINISHING part, if it has one, is worked");
        String text = "OPEN; LESS 3 3 1; IF 0 3; CALL 0 5; END; THROW FIRE; FINISH; TELL 3; CLOSE";
        Stair stair = dueTrace(text, 15, 0, 0, 0);
        dueFailure(text, stair, FIRE);
        dueFinished(text, stair, 1, 1, 1);
        due(text + ": depth", stair.depth(), 9);
        due(text + ": NUMBER 5 gets no value", stair.number(5), 5);
        text = "OPEN 2; LESS 3 3 1; IF 0 3; CALL 0 5; END; TELL 5; THROW FIRE; TAKER; RETURN 6; FINISH; TELL 3; CLOSE";
        stair = dueTrace(text, 23, 5, 0, 6, 0, 6, 0);
        dueEnd(text, stair, BY_RETURN, 6);
        dueFinished(text, stair, 1, 1, 1);
        dueTaken(text, stair, 3);
    }

    private static void testInsteadInARoutineOfATaker() {
        says("its CAUSE is the failure that the innermost trial took whose TAKER is at work (of this routine, or of those that wait for it)");
        String calls = "OPEN ALL; THROW FIRE; TAKER; CALL 1 4; CLOSE; MARK_OF 0; ";
        Stair stair = dueTrace(calls + "OPEN ALL; INSTEAD FLASH; TAKER; INSTEAD THEFT; FINISH; TELL 1; CLOSE", 7, 1);
        dueFailure("one more TAKER in the routine", stair, THEFT, FLASH, FIRE);
        dueTaken("one more TAKER in the routine", stair, 2);
        stair = dueTrace("OPEN ALL; THROW FIRE; TAKER; OPEN 8; CALL 1 4; TAKER; INSTEAD ALARM; CLOSE; CLOSE; MARK_OF 0; INSTEAD THEFT", 6);
        dueFailure("what the routine failed with is TAKEN", stair, ALARM, THEFT, FIRE);
        stair = dueTrace("OPEN ALL; THROW FIRE; TAKER; LOOP 1; IF 1 2; CALL 1 4; MARK_OF 0; LOOP 2; OPEN; IF 3 4; INSTEAD THEFT", 9);
        dueFailure("BLOCKS around the CALL and around INSTEAD", stair, THEFT, FIRE);
        dueFailure("its TAKER is over", dueTrace("OPEN ALL; THROW FIRE; TAKER; CLOSE; CALL 1 4; MARK_OF 0; INSTEAD THEFT", 4), THEFT);
        stair = dueTrace("OPEN ALL; CALL 1 4; TAKER; INSTEAD ALARM; MARK_OF 0; INSTEAD THEFT", 4);
        dueFailure("called by a BODY", stair, ALARM, THEFT);
    }

    private static void testInsteadInFinishingParts() {
        says("its CAUSE is the failure that the innermost trial took whose TAKER is at work");
        says("if that FAILED, this failure comes of the trial, and what came before is lost (a failure with its CAUSES, too)");
        String text = "OPEN ALL; THROW FIRE; TAKER; OPEN ALL; THROW FLASH; TAKER; TELL 1; FINISH; INSTEAD THEFT; CLOSE; TELL 2; FINISH; TELL 3";
        Stair stair = dueTrace(text, 7, 1, 3);
        dueFailure(text, stair, THEFT, FIRE);
        dueFinished(text, stair, 4, 1);
        dueTaken(text, stair, 2);
        text = "OPEN ALL; THROW FIRE; TAKER; CALL 1 4; CLOSE; MARK_OF 0; OPEN ALL; THROW FLASH; TAKER; FINISH; INSTEAD THEFT; CLOSE";
        dueFailure(text, dueTrace(text, 6), THEFT, FIRE);
        text = "OPEN ALL; THROW FIRE; TAKER; FINISH; CALL 1 4; CLOSE; MARK_OF 0; INSTEAD THEFT";
        dueFailure(text, dueTrace(text, 4), THEFT);
        text = "OPEN ALL; THROW FLASH; TAKER; OPEN; THROW FIRE; FINISH; CALL 1 4; CLOSE; MARK_OF 0; INSTEAD THEFT";
        dueFailure(text, dueTrace(text, 6), THEFT, FLASH);
        text = "OPEN ALL; THROW FLASH; TAKER; INSTEAD FIRE; FINISH; OPEN ALL; THROW THEFT; TAKER; INSTEAD ALARM";
        dueFailure(text, dueTrace(text, 6), ALARM, THEFT);
    }

    private static void testInsteadByLevels() {
        says("(of this routine, or of those that wait for it)");
        says("A failure of it is one of this step (what it changed stays).");
        String text = "OPEN ALL; LESS 3 3 1; IF 0 3; CALL 0 5; END; THROW_NOTHING; TAKER; INSTEAD FIRE; CLOSE";
        Stair stair = dueTrace(text, 15);
        dueFailure(text, stair, FIRE, FIRE, FIRE, NONE);
        dueTaken(text, stair, 3);
        text = "OPEN ALL; INSTEAD FIRE; TAKER; LESS 3 3 1; IF 0 3; CALL 0 5; END; INSTEAD THEFT; CLOSE";
        stair = dueTrace(text, 15);
        dueFailure(text, stair, THEFT, FIRE, FIRE, FIRE);
        dueTaken(text, stair, 3);
    }

    private static void testThingsInTrials() {
        says("15 GIVE: hb has what ha has (the same THING; its MARK is one).");
        says("A trial takes kind k when bit k of a is set, or bit 10");
        duePlain("THING 1 CHISEL 3; MAKE THINGS:0 2; PUT THINGS:0 1 1; OPEN 64; MARK_PUT 1 5; MARK 4 1; TAKER; "
            + "LOOK THINGS:0 1 6; RING 6 2 7; TELL 7; CLOSE", 9, 8);
        dueToFail("THING 1 HAMMER; MAKE THINGS:0 2 1; OPEN 512; PUT THINGS:0 0 1; TAKER; CAST 1 SAW 2; CLOSE", MISCAST, 5);
        duePlain("THING 1 SAW 3; GIVE 1 2; OPEN 256; MARK_PUT 2 6; CAST 1 CHISEL 1; TAKER; THING 2 HAMMER 4; USE 1 0 5; TELL 5; CLOSE", 8, 6);
        duePlain("MAKE LONGS:0 2; PUT LONGS:0 0 5; OPEN 32; PUT LONGS:0 1 6; PUT LONGS:0 2 7; TAKER; LOOK LONGS:0 0 3; TELL 3; LOOK LONGS:0 1 3; "
            + "TELL 3; CLOSE", 9, 5, 6);
    }

    private static void testSpentInside() {
        says("Where there is none left the run is SPENT: it ends at once; no trial takes it, no finishing part is worked.");
        Stair stair = ran("SET 1 1; SET 2 2; SET 3 3; SET 4 4; SET 5 5");
        String text = "LOOP 5; OPEN -1; THROW; TAKER; CALL 1 4; FINISH; TELL 1; CLOSE; END; MARK_OF 0; OPEN -1; TELL 2; TELL 3; FINISH; TELL 4";
        due(text + ": steps", again(stair, text, 6), 6);
        dueEnd(text, stair, SPENT, 0);
        dueOutputs(text, stair, 2);
        dueFinished(text, stair);
        dueTaken(text, stair, 1);
        due(text + ": depth", stair.depth(), 5);
        due(text + ": NUMBER of the LOOP", stair.number(5), 4);
        due(text + ": NUMBER of the CALL", stair.number(4), 4);
        text = "OPEN; RETURN 5; FINISH; OPEN -1; CALL 1 4; FINISH; TELL 1; CLOSE; CLOSE; MARK_OF 0; TELL 2; TELL 3";
        due(text + ": steps", again(stair, text, 5), 5);
        dueEnd(text, stair, SPENT, 0);
        dueOutputs(text, stair, 2);
        dueFinished(text, stair, 1);
    }

    private static void testTooDeepInside() {
        says("where a 201st would be OPEN (its step is taken) the run is TOO DEEP: it ends at once, likewise.");
        says("(A trial is OPEN until its finishing part is over or not worked;");
        Stair stair = new Stair();
        due("each finishing part calls: steps", again(stair, "OPEN -1; TAKER; FINISH; CALL 0 1; CLOSE; TELL 1"), 200);
        dueEnd("each finishing part calls", stair, TOO_DEEP, 0);
        due("each finishing part calls: finishing parts", stair.status(5), 100);
        due("each finishing part calls: finished(99)", stair.finished(99), 1);
        due("each finishing part calls: depth", stair.depth(), 200);
        stair = new Stair();
        due("each TAKER calls: steps", again(stair, "OPEN -1; THROW FIRE; TAKER; CALL 0 1; FINISH; TELL 1; CLOSE"), 300);
        dueEnd("each TAKER calls", stair, TOO_DEEP, 0);
        dueTaken("each TAKER calls", stair, 100);
        dueFinished("each TAKER calls", stair);
        dueOutputs("each TAKER calls", stair);
    }

    private static void testRunsBehindOneAnother() {
        says("they stay from run to run.");
        says("none when no TAKER is.");
        Stair stair = new Stair();
        again(stair, "SET 1 1; OPEN ALL; THROW FIRE; TAKER; CALL 1 2; FINISH; TELL 1; CLOSE; MARK_OF 0; SET 3 9; LOOP 1", 6);
        dueEnd("SPENT in a TAKER", stair, SPENT, 0);
        dueTaken("SPENT in a TAKER", stair, 1);
        due("INSTEAD: steps", again(stair, "TELL 3; TELL 1; INSTEAD THEFT"), 3);
        dueFailure("no TAKER of the run before is at work", stair, THEFT);
        dueOutputs("the HOUSE stays", stair, 9, 0);
        dueFinished("none of this run", stair);
        dueTaken("none of this run", stair, 0);
        due("only the routine is OPEN", stair.depth(), 1);
        due("wipe", stair.wipe(), 4);
        due("a run that is refused", stair.run(0, 9), -1);
        dueFailure("told of the latest run that was worked", stair, THEFT);
        dueOutputs("told of the latest run that was worked", stair, 9, 0);
        due("runs", stair.status(3), 2);
        due("steps of both", stair.status(2), 9);
    }
}
