import java.io.IOException;

/** The boundary cases of "Terms": the steps THING to WEIGH, sentence by sentence. */
final class ThingEdgeTest extends EdgeBase {
    /** HANDS 0 to 2 have one of each kind, with MARKS 10, 20 and 30; HAND 3 has nothing; NUMBER 6 is 9. */
    private static final String TOOLS = "SET 1 10; THING 0 HAMMER 1; SET 1 20; THING 1 SAW 1; SET 1 30; THING 2 CHISEL 1; "
        + "SET 1 4; SET 6 9; ";

    public static void main(String[] args) throws IOException {
        begin(args);
        testThing();
        testGive();
        testMark();
        testMarkPut();
        testCast();
        testUse();
        testRing();
        testWeigh();
        close();
    }

    private static void testThing() {
        says("14 THING: ha has a new THING of kind b & 3 with MARK nc");
        int[] more = {0, 4, -4, LEAST_INT, MOST_INT - 3};
        for (int kind = 0; kind < 3; kind++) {
            for (int unit : more) {
                Stair stair = ran(TOOLS + "THING 3 " + (kind + unit) + " 1");
                due("b " + (kind + unit), stair.hand(3), kind);
                due("b " + (kind + unit) + ": MARK", stair.mark(3), 4);
            }
        }
        Stair stair = ran(TOOLS + "GIVE 0 4; THING 0 HAMMER 1; MARK_PUT 0 6");
        due("a new one, not the one that was there", stair.mark(4), 10);
        due("MARK least", ran("LONG 1 " + LEAST + "; THING 1 SAW 1").mark(1), LEAST);
        due("the MARK does not go with the NUMBER", ran("SET 1 5; THING 1 SAW 1; SET 1 6").mark(1), 5);
        says("(with b & 3 being 3 it has nothing)");
        int[] nothing = {3, 7, -1, MOST_INT};
        for (int b : nothing) {
            due("b " + b, ran(TOOLS + "THING 0 " + b + " 1").hand(0), -1);
            due("b " + b + ": MARK", ran(TOOLS + "THING 0 " + b + " 1").mark(0), 0);
        }
        dueToLeaveAll(TOOLS + "THING 0 3", "MARK 0 6", NONE);
    }

    private static void testGive() {
        says("hb has what ha has (the same THING; its MARK is one)");
        Stair stair = ran(TOOLS + "GIVE 1 3; MARK_PUT 3 6");
        due("one MARK", stair.mark(1), 9);
        due("ha has it still", stair.hand(1), SAW);
        again(stair, "GIVE 5 3");
        due("nothing", stair.hand(3), -1);
        due("ha has it still", stair.hand(1), SAW);
        again(stair, "GIVE 1 1");
        due("to itself", stair.mark(1), 9);
        again(stair, "GIVE 5 5");
        due("nothing to itself", stair.hand(5), -1);
    }

    private static void testMark() {
        says("16 MARK: nb is the MARK of ha's; NONE when ha has nothing.");
        due("MARK", numberAfter(6, TOOLS + "MARK 2 6"), 30);
        dueToLeaveAll(TOOLS, "MARK 3 6", NONE);
    }

    private static void testMarkPut() {
        says("17 MARK PUT: the MARK of ha's is nb; NONE.");
        due("MARK PUT", ran(TOOLS + "LONG 6 " + LEAST + "; MARK_PUT 2 6").mark(2), LEAST);
        dueToLeaveAll(TOOLS, "MARK_PUT 3 6", NONE);
    }

    private static void testCast() {
        says("18 CAST: hc has what ha has, if that is nothing, or of kind b & 3");
        says("1 SAW (CHISELS, too)");
        says("3 one that rings (SAWS and CHISELS do); else CAST.");
        String[] fitting = {"0", "13", "123"};
        int[] more = {0, 4, -4, LEAST_INT, MOST_INT - 3};
        for (int as = 0; as < 4; as++) {
            for (int unit : more) {
                for (int kind = 0; kind < 3; kind++) {
                    String step = "CAST " + kind + " " + (as + unit) + " 4";
                    if (fitting[kind].indexOf('0' + as) >= 0) {
                        due(step, ran(TOOLS + "THING 4 HAMMER; " + step).mark(4), 10 * kind + 10);
                    } else {
                        dueToLeaveAll(TOOLS + "THING 4 HAMMER", step, MISCAST);
                    }
                }
                due("CAST of nothing", ran(TOOLS + "THING 4 HAMMER; CAST 3 " + (as + unit) + " 4").hand(4), -1);
            }
        }
        due("it is the same THING", ran(TOOLS + "CAST 1 3 4; MARK_PUT 4 6").mark(1), 9);
        due("to itself", ran(TOOLS + "CAST 2 1 2").hand(2), CHISEL);
    }

    private static void testUse() {
        says("HAMMER MARK + x, SAW MARK - x, CHISEL 2 (MARK - x). NONE.");
        due("HAMMER", numberAfter(6, TOOLS + "USE 0 1 6"), 14);
        due("SAW", numberAfter(6, TOOLS + "USE 1 1 6"), 16);
        due("CHISEL", numberAfter(6, TOOLS + "USE 2 1 6"), 52);
        due("CHISEL, x beyond its MARK", numberAfter(6, "THING 2 CHISEL; SET 1 3; USE 2 1 6"), -6);
        due("HAMMER wraps", numberAfter(6, TOOLS + "LONG 1 " + MOST + "; USE 0 1 6"), LEAST + 9);
        due("SAW wraps", numberAfter(6, TOOLS + "LONG 1 " + LEAST + "; USE 1 1 6"), LEAST + 20);
        due("CHISEL wraps", numberAfter(6, TOOLS + "LONG 1 " + LEAST + "; USE 2 1 6"), 60);
        dueToLeaveAll(TOOLS, "USE 3 1 6", NONE);
    }

    private static void testRing() {
        says("nc is MARK ^ x (the bits that differ), x being nb, for one that rings, or, for a CHISEL, that and 1 more.");
        due("SAW", numberAfter(6, TOOLS + "RING 1 1 6"), 20 ^ 4);
        due("CHISEL", numberAfter(6, TOOLS + "RING 2 1 6"), (30 ^ 4) + 1);
        due("SAW, x below 0", numberAfter(6, TOOLS + "SET 1 -1; RING 1 1 6"), -21);
        due("CHISEL wraps", numberAfter(6, "LONG 1 " + MOST + "; THING 2 CHISEL; RING 2 1 6"), LEAST);
        due("SAW, no bits that differ", numberAfter(6, "LONG 1 " + MOST + "; THING 2 SAW 1; RING 2 1 6"), 0);
        due("CHISEL, no bits that differ", numberAfter(6, "LONG 1 " + LEAST + "; THING 2 CHISEL 1; RING 2 1 6"), 1);
        says("NONE when ha has nothing; CAST for a HAMMER.");
        dueToLeaveAll(TOOLS, "RING 3 1 6", NONE);
        dueToLeaveAll(TOOLS, "RING 0 1 6", MISCAST);
    }

    private static void testWeigh() {
        says("21 WEIGH: nc is 3 nb + MARK of ha's; NONE.");
        for (int kind = 0; kind < 3; kind++) {
            due("WEIGH " + kind, numberAfter(6, TOOLS + "WEIGH " + kind + " 1 6"), 22 + 10 * kind);
        }
        due("WEIGH wraps", numberAfter(6, TOOLS + "LONG 1 " + MOST + "; WEIGH 0 1 6"), MOST - 2 + 10);
        due("WEIGH of a wrapped MARK", numberAfter(6, "LONG 1 " + MOST + "; THING 0 SAW 1; WEIGH 0 1 6"), -4);
        dueToLeaveAll(TOOLS, "WEIGH 3 1 6", NONE);
    }
}
