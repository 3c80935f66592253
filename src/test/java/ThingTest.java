/** Promises 14 and 15, and the steps THING to WEIGH. */
final class ThingTest extends TestBase {
    public static void main(String[] args) {
        testThing();
        testGive();
        testMark();
        testCast();
        testUse();
        testRing();
        testWeigh();
        testNothing();
        close();
    }

    /** HANDS 0 to 2 have a HAMMER, a SAW and a CHISEL, all with MARK 6, HAND 3 has nothing; NUMBER 1 is 5. */
    private static Stair tools() {
        return ran(SET, 1, 6, 0, THING, 8, 4 + HAMMER, 9, THING, 1, SAW, 1, THING, 2, -2, 1, SET, 1, 5, 0);
    }

    private static void testThing() {
        Stair stair = tools();
        for (int i = 0; i < 3; i++) {
            due("hand " + i, stair.hand(i), i);
            due("mark " + i, stair.mark(i), 6);
        }
        due("nothing", stair.hand(3), -1);
        due("no mark", stair.mark(3), 0);
        int[] no = {-1, 8, Integer.MIN_VALUE, Integer.MAX_VALUE};
        for (int i : no) {
            due("no HAND", stair.hand(i), -2);
            due("no HAND's mark", stair.mark(i), 0);
        }
        again(stair, THING, 1, NOTHING, 1);
        due("b & 3 being 3", stair.hand(1), -1);
        due("its mark", stair.mark(1), 0);
    }

    private static void testGive() {
        Stair stair = tools();
        again(stair, GIVE, 9, 12, 0, SET, 2, 77, 0, MARK_PUT, 1, 2, 0);
        due("HAND 4 has it", stair.hand(4), SAW);
        due("HAND 1 has it, too", stair.hand(1), SAW);
        due("its MARK is one", stair.mark(4), 77);
        again(stair, THING, 1, SAW, 0);
        due("a new one is another", stair.mark(4), 77);
        again(stair, GIVE, 3, 4, 0);
        due("nothing is given", stair.hand(4), -1);
        again(stair, GIVE, 2, 2, 0);
        due("to itself", stair.hand(2), CHISEL);
    }

    private static void testMark() {
        Stair stair = tools();
        again(stair, MARK, 10, 11, 0);
        due("MARK", stair.number(3), 6);
        again(stair, MARK_PUT, 8, 9, 0);
        due("MARK PUT", stair.mark(0), 5);
        due("of that one alone", stair.mark(1), 6);
    }

    private static void testCast() {
        boolean[][] fits = {{true, false, false, false}, {false, true, false, true}, {false, true, true, true}};
        for (int kind = 0; kind < 3; kind++) {
            for (int as = 0; as < 4; as++) {
                Stair stair = tools();
                again(stair, THING, 4, CHISEL, 0, CAST, kind + 8, as - 4, 12);
                if (fits[kind][as]) {
                    dueEnd("CAST " + kind + " as " + as, stair, PLAINLY, 0);
                    due("CAST " + kind + " as " + as + ": hand", stair.hand(4), kind);
                    due("CAST " + kind + " as " + as + ": mark", stair.mark(4), 6);
                } else {
                    dueFailure("CAST " + kind + " as " + as, stair, MISCAST);
                    due("CAST leaves the hand", stair.hand(4), CHISEL);
                }
            }
        }
        for (int as = 0; as < 4; as++) {
            Stair stair = tools();
            again(stair, CAST, 3, as, 1);
            dueEnd("CAST of nothing as " + as, stair, PLAINLY, 0);
            due("CAST of nothing as " + as, stair.hand(1), -1);
        }
    }

    private static long worked(int op, int hand) {
        Stair stair = tools();
        again(stair, op, hand + 8, 9, 10);
        return stair.number(2);
    }

    private static void testUse() {
        due("HAMMER", worked(USE, 0), 11);
        due("SAW", worked(USE, 1), 1);
        due("CHISEL", worked(USE, 2), 2);
    }

    private static void testRing() {
        due("SAW", worked(RING, 1), 3);
        due("CHISEL", worked(RING, 2), 4);
        Stair stair = tools();
        again(stair, SET, 2, 9, 0, RING, 0, 1, 2);
        dueFailure("HAMMER", stair, MISCAST);
        due("the number is left", stair.number(2), 9);
        again(stair, SET, 1, -7, 0, RING, 2, 1, 2);
        due("CHISEL: bits below 0", stair.number(2), (6L ^ -7L) + 1);
    }

    private static void testWeigh() {
        for (int hand = 0; hand < 3; hand++) {
            due("WEIGH " + hand, worked(WEIGH, hand), 21);
        }
    }

    private static void testNothing() {
        int[] ops = {MARK, MARK_PUT, USE, RING, WEIGH};
        for (int op : ops) {
            Stair stair = tools();
            again(stair, op, 3, 1, 1);
            dueFailure("op " + op + " of nothing", stair, NONE);
            due("op " + op + " of nothing leaves the number", stair.number(1), 5);
            due("op " + op + " of nothing leaves the hand", stair.hand(3), -1);
        }
    }
}
