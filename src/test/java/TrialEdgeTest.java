import java.io.IOException;

/** The boundary cases of "Terms": trials, BREAK and AGAIN, RETURN and CALL, sentence by sentence. */
final class TrialEdgeTest extends EdgeBase {
    public static void main(String[] args) throws IOException {
        begin(args);
        testTaken();
        testInPlaceOfIt();
        testFinishInAnyCase();
        testFinishFailed();
        testFinishPlainOrLeft();
        testTakesKind();
        testTakesByOthersBits();
        testWithoutTaker();
        testNoLoopAround();
        testReturn();
        testCall();
        testCallValue();
        testCallFails();
        testCallOfNone();
        testFailedStepLeavesAll();
        close();
    }

    private static void dueTaken(String what, Stair stair, int taken) {
        due(what + ": failures that were TAKEN", stair.status(7), taken);
    }

    private static void testTaken() {
        says("If it failed with a kind that the trial takes (and it has a TAKER): the failure is TAKEN");
        dueTaken("taken", dueTrace("OPEN ALL; THROW; TAKER; TELL 1; CLOSE; TELL 2", 4, 1, 2), 1);
        dueTaken("another kind", dueTrace("OPEN 2; THROW THEFT; TAKER; TELL 1; CLOSE; TELL 2", 2), 0);
        dueTaken("BODY over plainly", dueTrace("OPEN ALL; TELL 3; TAKER; TELL 1; CLOSE; TELL 2", 3, 3, 2), 0);
        dueTaken("BODY left", dueTrace("OPEN ALL; RETURN 3; TAKER; TELL 1; CLOSE; TELL 2", 2), 0);
        dueTaken("BODY left by BREAK", dueTrace("LOOP 1; OPEN ALL; BREAK; TAKER; TELL 1; CLOSE; END; TELL 2", 4, 2), 0);
        dueTaken("twice", dueTrace("LOOP 2; OPEN ALL; THROW; TAKER; TELL 2; CLOSE; END", 9, 1, 0), 2);
        dueTaken("by the outer one", dueTrace("OPEN 1; OPEN 8; THROW; TAKER; TELL 1; CLOSE; TAKER; TELL 2; CLOSE", 4, 2), 1);
    }

    private static void testInPlaceOfIt() {
        says("its TAKER's part is worked, and what comes of that comes in place of it.");
        duePlain("OPEN ALL; THROW; TAKER; CLOSE", 2);
        dueToFail("OPEN ALL; THROW; TAKER; THROW THEFT; CLOSE; TELL 1", THEFT, 3);
        dueToFail("OPEN ALL; THROW; TAKER; DIVIDE 1 1 0; CLOSE; TELL 1", DIVISION, 3);
        dueReturn("OPEN ALL; THROW; TAKER; RETURN 5; CLOSE; TELL 1", 5, 3);
        dueReturn("OPEN ALL; THROW; TAKER; BREAK; CLOSE; TELL 1", 0, 3);
        duePlain("LOOP 2; OPEN ALL; THROW; TAKER; BREAK; CLOSE; END; TELL 2", 5, 1);
        duePlain("LOOP 2; OPEN ALL; THROW; TAKER; AGAIN; CLOSE; TELL 1; END; TELL 2", 10, 0);
        dueTaken("its own TAKER takes no failure of the TAKER's part",
            dueTrace("OPEN ALL; THROW; TAKER; THROW; CLOSE", 3), 1);
        dueTaken("the trial around does", dueTrace("OPEN ALL; OPEN ALL; THROW; TAKER; THROW; CLOSE; TAKER; TELL 1", 5, 1), 2);
    }

    private static void testFinishInAnyCase() {
        says("Then, in any case, its FINISHING part, if it has one, is worked");
        duePlain("OPEN; TELL 1; FINISH; TELL 2; CLOSE; TELL 3", 4, 1, 2, 3);
        dueToFail("OPEN; THROW; FINISH; TELL 2; CLOSE; TELL 3", ALARM, 3, 2);
        duePlain("OPEN ALL; THROW; TAKER; TELL 1; FINISH; TELL 2; CLOSE; TELL 3", 5, 1, 2, 3);
        dueToFail("OPEN ALL; THROW; TAKER; THROW THEFT; FINISH; TELL 2; CLOSE; TELL 3", THEFT, 4, 2);
        dueToFail("OPEN 2; THROW THEFT; TAKER; TELL 1; FINISH; TELL 2; CLOSE; TELL 3", THEFT, 3, 2);
        dueReturn("OPEN; RETURN 5; FINISH; TELL 2; CLOSE; TELL 3", 5, 3, 2);
        dueReturn("OPEN ALL; THROW; TAKER; RETURN 5; FINISH; TELL 2; CLOSE; TELL 3", 5, 4, 2);
        dueReturn("OPEN; BREAK; FINISH; TELL 2; CLOSE; TELL 3", 0, 3, 2);
        dueReturn("OPEN; AGAIN; FINISH; TELL 2; CLOSE; TELL 3", 0, 3, 2);
        dueReturn("OPEN; OPEN; OPEN; RETURN 5; FINISH; TELL 1; CLOSE; FINISH; TELL 2; CLOSE; FINISH; TELL 3", 5, 7, 1, 2, 3);
        duePlain("LOOP 1; OPEN; BREAK; FINISH; TELL 2; CLOSE; END; TELL 3", 5, 2, 3);
        duePlain("LOOP 1; OPEN; AGAIN; FINISH; TELL 2; CLOSE; END; TELL 3", 6, 2, 3);
        duePlain("CALL 1 4; TELL 4; MARK_OF 0; OPEN; RETURN 5; FINISH; TELL 2", 5, 2, 5);
    }

    private static void testFinishFailed() {
        says("if that FAILED, this failure comes of the trial, and what came before is lost (a failure with its CAUSES, too)");
        dueToFail("OPEN ALL; TAKER; TELL 1; FINISH; THROW FLASH; CLOSE", FLASH, 2);
        dueToFail("OPEN ALL; THROW; TAKER; FINISH; THROW FLASH; CLOSE", FLASH, 3);
        dueToFail("OPEN ALL; RETURN 5; TAKER; TELL 1; FINISH; THROW FLASH; CLOSE", FLASH, 3);
        dueToFail("LOOP 2; OPEN; BREAK; FINISH; THROW FLASH; CLOSE; END", FLASH, 4);
        dueToFail("LOOP 2; OPEN; AGAIN; FINISH; THROW FLASH; CLOSE; END", FLASH, 4);
        dueToFail("OPEN; THROW THEFT; FINISH; THROW FLASH; CLOSE", FLASH, 3);
        dueToFail("OPEN ALL; THROW THEFT; TAKER; INSTEAD FIRE; FINISH; THROW FLASH; CLOSE", FLASH, 4);
        dueToFail("OPEN ALL; OPEN ALL; THROW THEFT; TAKER; INSTEAD FIRE; FINISH; INSTEAD FLASH; CLOSE", FLASH, 5);
        duePlain("OPEN 8; OPEN; THROW FLASH; FINISH; THROW THEFT; CLOSE; TAKER; TELL 1; CLOSE", 5, 1);
        dueToFail("OPEN 4; OPEN; THROW FLASH; FINISH; THROW THEFT; CLOSE; TAKER; TELL 1; CLOSE", THEFT, 4);
    }

    private static void testFinishPlainOrLeft() {
        says("if it is over plainly or left in any way, what came before comes of the trial (a RETURN with its value as it was).");
        String[] ways = {"", "RETURN 4", "BREAK", "AGAIN", "CALL 1 6", "OPEN ALL; THROW FLASH; TAKER; CLOSE", "SET 5 0"};
        for (String way : ways) {
            int took = way.isEmpty() ? 0 : way.startsWith("OPEN") || way.startsWith("CALL") ? 2 : 1;
            String finish = "; FINISH; " + way + "; CLOSE";
            String one = "; MARK_OF 0; RETURN 6";
            duePlain("OPEN" + finish + "; TELL 2" + one, 2 + took, 2);
            dueReturn("OPEN; RETURN 5" + finish + "; TELL 2" + one, 5, 2 + took);
            dueReturn("OPEN; BREAK" + finish + "; TELL 2" + one, 0, 2 + took);
            dueToFail("OPEN; THROW THEFT" + finish + "; TELL 2" + one, THEFT, 2 + took);
            duePlain("LOOP 1; OPEN; BREAK" + finish + "; TELL 3; END; TELL 2" + one, 4 + took, 2);
            duePlain("LOOP 1; OPEN; AGAIN" + finish + "; TELL 3; END; TELL 2" + one, 5 + took, 2);
            duePlain("LOOP 1; OPEN" + finish + "; TELL 3; END; TELL 2" + one, 5 + took, 3, 2);
            Stair stair = dueTrace("OPEN ALL; THROW FIRE; TAKER; INSTEAD THEFT" + finish + one, 3 + took);
            dueFailure("with its CAUSE", stair, THEFT, FIRE);
        }
    }

    private static final String[] FAILING = {"THROW ALARM", "THROW FIRE", "THROW FLASH", "THROW THEFT", "DIVIDE 1 1 0",
        "LOOK THINGS:0 1 1", "THROW_NOTHING", "MAKE BYTES:0 2", "CAST 1 CHISEL 1", "PUT THINGS:0 0 1"};

    /** Which bits of a take each of the kinds. */
    private static final int[] BITS = {0x401, 0x403, 0x407, 0x408, 0x410, 0x420, 0x440, 0x480, 0x500, 0x600};

    private static void dueTakenWith(int kind, int bits, boolean taken) {
        Stair stair = ran("SET 1 1; SET 2 -1; THING 1 HAMMER; MAKE THINGS:0 1 1");
        String what = "OPEN " + bits + "; " + FAILING[kind] + "; TAKER; CLOSE";
        again(stair, what);
        due(what, stair.kind(), taken ? -1 : kind);
        dueTaken(what, stair, taken ? 1 : 0);
    }

    private static void testTakesKind() {
        says("A trial takes kind k when bit k of a is set, or bit 10");
        for (int kind = 0; kind < FAILING.length; kind++) {
            for (int bit = 0; bit < 32; bit++) {
                boolean taken = (BITS[kind] >> bit & 1) == 1;
                dueTakenWith(kind, 1 << bit, taken);
                dueTakenWith(kind, BITS[kind] & ~(1 << bit), true);
                dueTakenWith(kind, ~BITS[kind] | 1 << bit, taken);
            }
            dueTakenWith(kind, 0, false);
            dueTakenWith(kind, -1, true);
            dueTakenWith(kind, ~BITS[kind], false);
        }
    }

    private static void testTakesByOthersBits() {
        says("of a kind that is an other one, too, also by that one's bit (FLASH by bits 0, 1, 2, 10; FIRE by 0, 1, 10).");
        int[][] takers = {{0, 10}, {0, 1, 10}, {0, 1, 2, 10}, {3, 10}};
        for (int kind = 0; kind < takers.length; kind++) {
            for (int bit = 0; bit < 11; bit++) {
                boolean taken = false;
                for (int taker : takers[kind]) {
                    taken |= taker == bit;
                }
                dueTakenWith(kind, 1 << bit, taken);
            }
        }
    }

    private static void testWithoutTaker() {
        says("A trial without a TAKER takes none.");
        int[] all = {-1, ALL, 1};
        for (int a : all) {
            dueTaken("no TAKER", dueTrace("OPEN " + a + "; THROW; CLOSE; TELL 1", 2), 0);
            dueToFail("OPEN " + a + "; THROW; CLOSE; TELL 1", ALARM, 2);
            dueToFail("OPEN " + a + "; THROW; FINISH; TELL 1; CLOSE", ALARM, 3, 1);
            dueToFail("OPEN " + a + "; THROW", ALARM, 2);
        }
    }

    private static void testNoLoopAround() {
        says("BREAK and AGAIN that no LOOP of their routine is around: the routine is over as by a RETURN of 0.");
        String[] ways = {"BREAK", "AGAIN"};
        for (String way : ways) {
            dueReturn(way + " 5 5 5; TELL 1", 0, 1);
            dueReturn("IF 1 2; OPEN ALL; " + way + "; TAKER; TELL 1; FINISH; TELL 3; CLOSE; END; TELL 2", 0, 4, 3);
            dueReturn("LOOP 1; END; " + way + "; TELL 2", 0, 3);
            duePlain("CALL 1 4; TELL 4; MARK_OF 0; " + way + "; TELL 2", 3, 0);
            duePlain("LOOP 2; CALL 1 4; TELL 2; END; MARK_OF 0; " + way + "; TELL 5", 9, 1, 0);
            duePlain("OPEN; CALL 1 4; TELL 2; FINISH; TELL 3; CLOSE; MARK_OF 0; OPEN; " + way + "; FINISH; TELL 5", 7, 5, 2, 3);
        }
    }

    private static void testReturn() {
        says("RETURN: the value is na, as it is then; the routine is over.");
        dueReturn("RETURN 5; TELL 1", 5, 1);
        dueReturn("RETURN 0", 0, 1);
        dueReturn("LONG 1 " + LEAST + "; RETURN 1", LEAST, 8);
        dueReturn("LONG 1 " + MOST + "; RETURN 9", MOST, 8);
        dueReturn("OPEN; RETURN 5; FINISH; SET 5 9; CLOSE", 5, 3);
        dueReturn("LOOP 2; LOOP 3; OPEN; IF 1 4; RETURN 3; END; CLOSE; END; END; TELL 1", 2, 5);
        duePlain("CALL 1 4; TELL 4; MARK_OF 0; LOOP 3; RETURN 3; END", 4, 2);
    }

    private static void testCall() {
        says("CALL: step 35 with c odd: the routine a is worked");
        duePlain("CALL 1 0; TELL 1; MARK_OF 0; TELL 2; MARK_OF 0; TELL 3", 3, 2, 1);
        duePlain("CALL 2 0; TELL 1; MARK_OF 0; TELL 2; MARK_OF 0; TELL 3", 3, 3, 1);
        duePlain("CALL 2 0; TELL 1; MARK_OF 0; TELL 2; MARK_OF 0; CALL 1 0; TELL 3", 5, 2, 3, 1);
        duePlain("IF 1 3; ADD 1 1 2; CALL 0 0; END; TELL 1", 6, 3, 3);
        Stair stair = written("MARK_OF 0; CALL 1 0; TELL 1; MARK_OF 0; TELL 2; CALL 8 0");
        due("of an earlier routine", stair.run(1, 9), 2);
        dueFailure("a is not cut to three bits", stair, NONE);
    }

    private static void testCallValue() {
        says("behind it nb is its value: that of its RETURN, 0 when it was over plainly.");
        duePlain("CALL 1 4; TELL 4; MARK_OF 0; RETURN 5", 3, 5);
        duePlain("CALL 1 4; TELL 4; MARK_OF 0; TELL 5", 3, 5, 0);
        duePlain("CALL 1 4; TELL 4; MARK_OF 0", 2, 0);
        duePlain("CALL 1 4; TELL 4; MARK_OF 0; SET 4 9; TELL 4", 4, 9, 0);
        duePlain("CALL 1 4; TELL 4; MARK_OF 0; SET 4 9; RETURN 4; TELL 1", 4, 9);
        duePlain("CALL 1 12; TELL 4; CALL 2 -4; TELL 4; MARK_OF 0; RETURN 5; MARK_OF 0; RETURN 6", 6, 5, 6);
        duePlain("CALL 1 4; TELL 4; MARK_OF 0; CALL 2 3; TELL 3; MARK_OF 0; RETURN 5", 5, 5, 0);
    }

    private static void testCallFails() {
        says("A failure of it is one of this step (what it changed stays).");
        Stair stair = dueTrace("CALL 1 4; TELL 1; MARK_OF 0; SET 5 9; TELL 5; THROW THEFT", 4, 9);
        dueFailure("of the run", stair, THEFT);
        due("what it changed", stair.number(5), 9);
        due("there is no value", stair.number(4), 4);
        duePlain("OPEN 8; CALL 1 4; TELL 1; TAKER; TELL 4; TELL 5; CLOSE; MARK_OF 0; SET 5 9; THROW THEFT", 6, 4, 9);
        duePlain("OPEN 8; CALL 1 4; TELL 1; TAKER; TELL 4; CLOSE; MARK_OF 0; OPEN 1; CALL 2 4; TAKER; TELL 1; CLOSE; "
            + "MARK_OF 0; THROW THEFT", 6, 4);
        dueFailure("with its CAUSE", dueTrace("CALL 1 4; MARK_OF 0; OPEN ALL; THROW_NOTHING; TAKER; INSTEAD FIRE", 4), FIRE, NONE);
    }

    private static void testCallOfNone() {
        says("NONE when there is no routine a.");
        int[] none = {-1, 2, 8, 9, -8, LEAST_INT, MOST_INT, LEAST_INT + 1};
        for (int a : none) {
            Stair stair = dueTrace("CALL " + a + " 4; TELL 1; MARK_OF 0; TELL 2", 1);
            dueFailure("CALL " + a, stair, NONE);
            due("CALL " + a + " leaves the NUMBER", stair.number(4), 4);
            due("CALL " + a + ": depth", stair.depth(), 1);
            duePlain("OPEN 64; CALL " + a + " 4; TAKER; TELL 4; CLOSE; MARK_OF 0", 3, 4);
        }
    }

    private static void testFailedStepLeavesAll() {
        says("A step that fails leaves all as it was (but a CALL).");
        String given = "SET 1 5; SET 2 -1; SET 3 2; THING 1 HAMMER 1; THING 2 SAW 1; MAKE LONGS:0 3; MAKE THINGS:0 3 1; "
            + "PUT LONGS:0 4 1; PUT THINGS:0 4 2; GRID 3 3; GRID_PUT 4 4 1";
        String[] steps = {"DIVIDE 1 1 4", "REST 1 1 4", "MAKE LONGS:0 2", "LOOK LONGS:1 4 1", "LOOK LONGS:0 1 1", "LOOK THINGS:0 1 1",
            "PUT LONGS:1 4 1", "PUT LONGS:0 2 1", "PUT THINGS:0 4 1", "LENGTH LONGS:1 1", "GRID 2 1", "GRID_LOOK 1 4 1",
            "GRID_PUT 4 2 1", "MARK 3 1", "MARK_PUT 3 1", "CAST 1 SAW 2", "USE 3 1 1", "RING 1 1 1", "RING 3 1 1", "WEIGH 3 1 1",
            "THROW FLASH", "THROW_NOTHING", "INSTEAD FIRE", "CALL 7 1"};
        int[] kinds = {DIVISION, DIVISION, SIZE, NONE, INDEX, INDEX, NONE, INDEX, STORE, NONE, SIZE, INDEX, INDEX, NONE, NONE,
            MISCAST, NONE, MISCAST, NONE, NONE, FLASH, NONE, FIRE, NONE};
        for (int i = 0; i < steps.length; i++) {
            dueToLeaveAll(given, steps[i], kinds[i]);
        }
        dueToLeaveAll("SET 2 -1", "GRID_LOOK 2 2 1", NONE);
        dueToLeaveAll("SET 2 -1", "GRID_PUT 2 2 1", NONE);
    }
}
