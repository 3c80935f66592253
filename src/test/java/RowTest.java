/** Promises 16 and 17, and the steps MAKE, LOOK, PUT and LENGTH. */
final class RowTest extends TestBase {
    public static void main(String[] args) {
        testAsking();
        testMake();
        testMakeAgain();
        testPlaces();
        testNarrowing();
        testFloats();
        testThings();
        testSawsAlone();
        testRowsAreApart();
        close();
    }

    private static void testAsking() {
        Stair stair = ran(SET, 1, 2, 0, MAKE, 8 * LONGS + 3, 1, 0, PUT, 8 * LONGS + 3, 0, 1);
        due("size", stair.size(LONGS, 3), 2);
        due("value", stair.value(LONGS, 3, 0), 2);
        due("no ROW: size", stair.size(LONGS, 2), -1);
        due("no ROW: value", stair.value(LONGS, 2, 0), 0);
        due("place -1", stair.value(LONGS, 3, -1), 0);
        due("place 2", stair.value(LONGS, 3, 2), 0);
        due("place most", stair.value(LONGS, 3, Integer.MAX_VALUE), 0);
        due("a sort is not cut to three bits", stair.value(LONGS + 8, 3, 0), 0);
        due("a shelf is not cut to three bits", stair.value(LONGS, 3 + 8, 0), 0);
        int[] no = {-1, 8, Integer.MIN_VALUE, Integer.MAX_VALUE};
        for (int i : no) {
            due("size of no sort", stair.size(i, 3), -2);
            due("size of no shelf", stair.size(LONGS, i), -2);
            due("value of no sort", stair.value(i, 3, 0), 0);
            due("value of no shelf", stair.value(LONGS, i, 0), 0);
        }
    }

    private static int sizeMade(int places) {
        return ran(SET, 1, places, 0, MAKE, 8 * SHORTS + 5, 9, 0).size(SHORTS, 5);
    }

    private static void testMake() {
        due("0 places", sizeMade(0), 0);
        due("1 place", sizeMade(1), 1);
        due("63 places", sizeMade(63), 63);
        due("64 places", sizeMade(64), 0);
        due("127 places", sizeMade(127), 63);
        due("most places", sizeMade(Integer.MAX_VALUE), 63);
        due("-1 place", sizeMade(-1), -1);
        dueFailure("-1 place", ran(SET, 1, -1, 0, MAKE, 0, 1, 0), SIZE);
        dueFailure("least places", ran(SET, 1, Integer.MIN_VALUE, 0, MAKE, 0, 1, 0), SIZE);
        Stair stair = ran(SET, 1, Integer.MAX_VALUE, 0, SET, 2, 1, 0, ADD, 1, 1, 2, MAKE, 0, 1, 0);
        dueFailure("the INT of 2^31 is below 0", stair, SIZE);
        again(stair, SET, 1, Integer.MIN_VALUE, 0, ADD, 1, 1, 1, ADD, 1, 1, 2, MAKE, 0, 1, 0);
        due("the INT of 1 - 2^32 is 1", stair.size(BYTES, 0), 1);
        due("high bits of a do not count", ran(MAKE, 64 * 5 + 8 * INTS + 4, 0, 0).size(INTS, 4), 0);
        due("those of an a below 0 neither", ran(MAKE, -1, 0, 0).size(THINGS, 7), 0);
    }

    private static void testMakeAgain() {
        Stair stair = ran(SET, 1, 3, 0, SET, 2, 2, 0, MAKE, 8, 1, 0, PUT, 8, 2, 1, MAKE, 8, 1, 0);
        due("all 0 again", stair.value(CHARS, 0, 2), 0);
        again(stair, PUT, 8, 2, 1, SET, 1, -1, 0, MAKE, 8, 1, 0);
        dueFailure("SIZE", stair, SIZE);
        due("SIZE leaves the ROW", stair.size(CHARS, 0), 3);
        due("SIZE leaves its values", stair.value(CHARS, 0, 2), 3);
        again(stair, MAKE, 8, 2, 0);
        due("shorter", stair.size(CHARS, 0), 2);
        due("shorter: a place gone", stair.value(CHARS, 0, 2), 0);
        again(stair, THING, 1, SAW, 0, MAKE, 8 * THINGS, 2, 0, PUT, 8 * THINGS, 0, 1, MAKE, 8 * THINGS, 2, 0);
        due("no THINGS again", stair.value(THINGS, 0, 0), -1);
    }

    private static void testPlaces() {
        int[] ops = {LOOK, PUT};
        for (int sort = 0; sort < 8; sort++) {
            for (int op : ops) {
                String what = "sort " + sort + ", op " + op;
                dueFailure(what + ": none", ran(op, 8 * sort, 0, 0), NONE);
                Stair stair = ran(SET, 1, 3, 0, MAKE, 8 * sort, 1, 0, op, 8 * sort, 1, 0);
                dueFailure(what + ": place 3", stair, INDEX);
                again(stair, SET, 1, -1, 0, op, 8 * sort, 1, 0);
                dueFailure(what + ": place -1", stair, INDEX);
                again(stair, SET, 1, 2, 0, op, 8 * sort, 9, 0);
                dueEnd(what + ": place 2", stair, PLAINLY, 0);
            }
            dueFailure("sort " + sort + ": LENGTH", ran(LENGTH, 8 * sort, 0, 0), NONE);
            due("sort " + sort + ": LENGTH", ran(SET, 1, 3, 0, MAKE, 8 * sort + 1, 1, 0, LENGTH, 8 * sort + 1, 10, 0)
                .number(2), 3);
        }
        Stair stair = ran(SET, 1, 5, 0, OPEN, ALL, 0, 0, LENGTH, 0, 1, 0, TAKER, 0, 0, 0);
        due("LENGTH of none leaves the number", stair.number(1), 5);
        again(stair, MAKE, 0, 0, 0, OPEN, ALL, 0, 0, LOOK, 0, 0, 1, TAKER, 0, 0, 0);
        due("LOOK at none leaves the number", stair.number(1), 5);
        again(stair, SET, 3, 1, 0, MAKE, 0, 3, 0, SET, 3, 65536, 0, TIMES, 3, 3, 3, PUT, 0, 3, 1);
        due("the INT of 2^32 is place 0", stair.value(BYTES, 0, 0), 5);
    }

    private static long kept(int sort, int high, int low) {
        Stair stair = ran(SET, 1, 1, 0, MAKE, 8 * sort, 1, 0, SET, 2, 65536, 0, TIMES, 2, 2, 2, SET, 3, high, 0,
            TIMES, 2, 2, 3, SET, 3, low, 0, ADD, 2, 2, 3, PUT, 8 * sort, 0, 10, LOOK, 8 * sort, 0, 12);
        due("LOOK as value()", stair.number(4), stair.value(sort, 0, 0));
        return stair.value(sort, 0, 0);
    }

    private static void testNarrowing() {
        due("byte 127", kept(BYTES, 0, 127), 127);
        due("byte 128", kept(BYTES, 0, 128), -128);
        due("byte -129", kept(BYTES, 0, -129), 127);
        due("byte 255", kept(BYTES, 7, 255), -1);
        due("char 65535", kept(CHARS, 0, 65535), 65535);
        due("char 65536", kept(CHARS, 0, 65536), 0);
        due("char -1", kept(CHARS, 0, -1), 65535);
        due("short 32767", kept(SHORTS, 0, 32767), 32767);
        due("short 32768", kept(SHORTS, 0, 32768), -32768);
        due("short -1", kept(SHORTS, 0, -1), -1);
        due("int 2^31", kept(INTS, 1, Integer.MIN_VALUE), Integer.MIN_VALUE);
        due("int 2^32 + 5", kept(INTS, 1, 5), 5);
        due("long 2^32 + 5", kept(LONGS, 1, 5), (1L << 32) + 5);
        due("long -2^32 + 5", kept(LONGS, -1, 5), 5 - (1L << 32));
    }

    private static void testFloats() {
        due("float 2^24", kept(FLOATS, 0, 16777216), 16777216);
        due("float 2^24 + 1 is as near to two", kept(FLOATS, 0, 16777217), 16777216);
        due("float 2^24 + 3 is as near to two", kept(FLOATS, 0, 16777219), 16777220);
        due("float -2^24 - 3", kept(FLOATS, 0, -16777219), -16777220);
        due("float most int", kept(FLOATS, 0, Integer.MAX_VALUE), 1L << 31);
        due("float that becomes 2^63", kept(FLOATS, Integer.MAX_VALUE, -1), Long.MAX_VALUE);
        due("float below 2^63", kept(FLOATS, Integer.MAX_VALUE - 127, 0), Long.MAX_VALUE - (1L << 39) + 1);
        due("double 2^53", kept(DOUBLES, 1 << 21, 0), 1L << 53);
        due("double 2^53 + 1 is as near to two", kept(DOUBLES, 1 << 21, 1), 1L << 53);
        due("double 2^53 + 3 is as near to two", kept(DOUBLES, 1 << 21, 3), (1L << 53) + 4);
        due("double least", kept(DOUBLES, Integer.MIN_VALUE, 0), Long.MIN_VALUE);
        due("float least", kept(FLOATS, Integer.MIN_VALUE, 0), Long.MIN_VALUE);
        testGreatest(FLOATS);
        testGreatest(DOUBLES);
    }

    /** The greatest long becomes 2^63, and the greatest long again. */
    private static void testGreatest(int sort) {
        Stair stair = ran(SET, 1, Integer.MIN_VALUE, 0, TIMES, 1, 1, 1, ADD, 1, 1, 1, SET, 2, 1, 0, LESS, 1, 1, 2,
            MAKE, 8 * sort, 2, 0, PUT, 8 * sort, 0, 1, LOOK, 8 * sort, 0, 3);
        due("greatest of sort " + sort, stair.number(3), Long.MAX_VALUE);
        due("greatest of sort " + sort, stair.value(sort, 0, 0), Long.MAX_VALUE);
    }

    private static void testThings() {
        Stair stair = ran(SET, 1, 3, 0, SET, 2, 1, 0, MAKE, 8 * THINGS, 1, 0, THING, 1, HAMMER, 1, THING, 2, CHISEL, 1,
            PUT, 8 * THINGS, 0, 9, PUT, 8 * THINGS, 2, 2, LOOK, 8 * THINGS, 0, 11, LOOK, 8 * THINGS, 1, 10);
        due("a HAMMER", stair.value(THINGS, 0, 0), HAMMER);
        due("a CHISEL", stair.value(THINGS, 0, 1), CHISEL);
        due("nothing", stair.value(THINGS, 0, 2), -1);
        due("no place", stair.value(THINGS, 0, 3), 0);
        due("no ROW", stair.value(THINGS, 1, 0), 0);
        due("LOOK at the HAMMER", stair.hand(3), HAMMER);
        again(stair, LOOK, 8 * THINGS, 0, 1, MARK_PUT, 1, 0, 0);
        due("it is the same THING", stair.mark(3), 0);
        again(stair, SET, 3, 2, 0, LOOK, 8 * THINGS, 3, 3);
        due("LOOK at nothing", stair.hand(3), -1);
        again(stair, LOOK, 8 * THINGS, 0, 7 - 8);
        due("LOOK into the last HAND", stair.hand(7), HAMMER);
        again(stair, PUT, 8 * THINGS, 0, 3);
        due("PUT of nothing", stair.value(THINGS, 0, 0), -1);
    }

    private static void testSawsAlone() {
        int[] make = {SET, 1, 2, 0, MAKE, 8 * THINGS, 1, 3, THING, 1, HAMMER, 0, THING, 2, SAW, 0, THING, 3, CHISEL, 0,
            PUT, 8 * THINGS, 0, 2, SET, 2, 1, 0, PUT, 8 * THINGS, 2, 3};
        Stair stair = ran(make);
        due("a SAW", stair.value(THINGS, 0, 0), SAW);
        due("a CHISEL", stair.value(THINGS, 0, 1), CHISEL);
        again(stair, PUT, 8 * THINGS, 0, 1);
        dueFailure("a HAMMER", stair, STORE);
        due("STORE leaves the THING", stair.value(THINGS, 0, 0), SAW);
        again(stair, PUT, 8 * THINGS, 1, 1);
        dueFailure("a HAMMER at no place", stair, INDEX);
        again(stair, PUT, 8 * THINGS, 0, 4);
        due("nothing", stair.value(THINGS, 0, 0), -1);
        again(stair, MAKE, 8 * THINGS, 1, 2, PUT, 8 * THINGS, 0, 1);
        due("with c even any THING", stair.value(THINGS, 0, 0), HAMMER);
        again(stair, MAKE, 8 * LONGS, 1, 1, PUT, 8 * LONGS, 0, 1);
        dueEnd("with c odd but another sort", stair, PLAINLY, 0);
    }

    private static void testRowsAreApart() {
        Stair stair = new Stair();
        add(stair, ROUTINE, 0, 0, 0, SET, 1, 1, 0, THING, 1, SAW, 0);
        for (int i = 0; i < 56; i++) {
            add(stair, SET, 2, i, 0, MAKE, i, 1, 0, PUT, i, 0, 2);
        }
        stair.run(0, 900);
        for (int i = 0; i < 56; i++) {
            due("ROW " + i, stair.value(i / 8, i % 8, 0), i);
        }
        due("no THINGS", stair.size(THINGS, 0), -1);
    }
}
