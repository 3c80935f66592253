import java.io.IOException;

/** The boundary cases of "Terms": THE HOUSE and the steps TELL to GRID PUT, sentence by sentence. */
final class HouseEdgeTest extends EdgeBase {
    public static void main(String[] args) throws IOException {
        begin(args);
        testEmptyAtFirst();
        testStays();
        testLongsWrap();
        testChisel();
        testChars();
        testThreeBits();
        testEachOfEight();
        testInts();
        testTell();
        testSet();
        testDivide();
        testRest();
        testSortAndShelf();
        testMake();
        testMakeTakesThePlace();
        testMakeOnEachShelf();
        testMakeForSawsAlone();
        testMakeSize();
        testLook();
        testLookAtFloats();
        testPutLowestBits();
        testPutNearest();
        testPutThings();
        testPutStore();
        testLength();
        testGrid();
        testGridSize();
        testGridLook();
        testGridPut();
        close();
    }

    private static void testEmptyAtFirst() {
        says("all NUMBERS are 0 and all else is empty at first");
        Stair stair = new Stair();
        for (int i = 0; i < 8; i++) {
            due("NUMBER " + i, stair.number(i), 0);
            due("HAND " + i, stair.hand(i), -1);
        }
        for (int i = 0; i < 64; i++) {
            due("ROW " + i, stair.size(i / 8, i % 8), -1);
        }
        String[] steps = {"LOOK LONGS:0", "LOOK THINGS:7", "LENGTH BYTES:3", "GRID_LOOK 0 0 0", "MARK 0 0", "USE 7 0 0"};
        for (String step : steps) {
            dueToLeaveAll("", step, NONE);
        }
    }

    private static void testStays() {
        says("they stay from run to run");
        String given = "LONG 1 5000000000; THING 2 CHISEL 1; SET 3 2; MAKE LONGS:4 3; PUT LONGS:4 0 1; "
            + "MAKE THINGS:5 3; PUT THINGS:5 0 2; GRID 3 3; GRID_PUT 0 0 3";
        String house = houseOf(ran(given));
        String[] runs = {"", "THROW FIRE", "RETURN 1", "LOOP 3; LOOP 3; END; SET 3 3; END", "TELL 1; TELL 1; TELL 1"};
        for (String run : runs) {
            Stair stair = ran(given);
            again(stair, run, run.startsWith("LOOP") ? 4 : 2);
            due(run + " leaves the HOUSE", house.equals(houseOf(stair)) ? 1 : 0, run.startsWith("LOOP") ? 0 : 1);
            due(run + ": GRID", stair.grid(0, 0), 2);
            due(run + ": ROW", stair.value(LONGS, 4, 0), 5000000000L);
            due(run + ": HAND", stair.mark(2), 5000000000L);
        }
    }

    private static void testLongsWrap() {
        says("NUMBERS 0 to 7 (longs, all wrap)");
        String given = "LONG 1 " + MOST + "; LONG 2 " + LEAST + "; SET 3 1; ";
        due("greatest + 1", numberAfter(4, given + "ADD 4 1 3"), LEAST);
        due("least + least", numberAfter(4, given + "ADD 4 2 2"), 0);
        due("least - 1", numberAfter(4, given + "LESS 4 2 3"), MOST);
        due("0 - least", numberAfter(4, given + "LESS 4 7 2"), LEAST);
        due("greatest - least", numberAfter(4, given + "LESS 4 1 2"), -1);
        due("greatest * greatest", numberAfter(4, given + "TIMES 4 1 1"), 1);
        due("least * least", numberAfter(4, given + "TIMES 4 2 2"), 0);
        due("greatest * least", numberAfter(4, given + "TIMES 4 1 2"), LEAST);
        due("least * -1", numberAfter(4, given + "SET 3 -1; TIMES 4 2 3"), LEAST);
        for (int i = 0; i < 8; i++) {
            due("NUMBER " + i, numberAfter(i, "SET " + i + " -" + (i + 1)), -i - 1);
        }
    }

    private static void testChisel() {
        says("2 CHISEL (which is a SAW, too)");
        due("CAST as a SAW", ran("THING 1 CHISEL; CAST 1 SAW 2").hand(2), CHISEL);
        due("among SAWS alone", ran("SET 1 1; MAKE THINGS:0 1 1; THING 1 CHISEL; PUT THINGS:0 0 1").value(THINGS, 0, 0), CHISEL);
        dueToLeaveAll("THING 1 SAW", "CAST 1 CHISEL 2", MISCAST);
    }

    private static void testChars() {
        says("1 chars (0 to 65535)");
        String[] puts = {"0", "1", "65534", "65535"};
        for (String put : puts) {
            due("char " + put, numberAfter(2, "SET 1 1; MAKE CHARS:0 1; SET 1 " + put + "; PUT CHARS:0 0 1; LOOK CHARS:0 0 2"),
                Integer.parseInt(put));
        }
        due("char 65536", numberAfter(2, "SET 2 9; SET 1 1; MAKE CHARS:0 1; SET 1 65536; PUT CHARS:0 0 1; LOOK CHARS:0 0 2"), 0);
        due("char -1", numberAfter(2, "SET 1 1; MAKE CHARS:0 1; SET 1 -1; PUT CHARS:0 0 1; LOOK CHARS:0 0 2"), 65535);
    }

    /** A HOUSE in which no two NUMBERS and no two HANDS are alike. */
    private static final String FULL_HOUSE = "SET 1 1; SET 2 2; SET 3 -3; SET 4 4; SET 5 5; SET 6 6; SET 0 3; "
        + "THING 1 HAMMER 1; THING 2 SAW 2; THING 3 CHISEL 3; THING 4 SAW 4; THING 5 CHISEL 5; THING 6 HAMMER 6; "
        + "MAKE LONGS:2 6; MAKE THINGS:3 6; PUT LONGS:2 4 3; PUT THINGS:3 5 2; GRID 6 5; GRID_PUT 1 2 4";

    private static String stateOf(Stair stair) {
        return houseOf(stair) + stair.end() + ' ' + stair.result() + ' ' + stair.kind() + ' ' + stair.status(4) + ' ' + stair.out(0);
    }

    /** The step does the same when a multiple of 'unit' is added to its argument 'which'. */
    private static void dueToCutTo(int unit, int op, int which, int... abc) {
        Stair plain = ran(FULL_HOUSE);
        again(plain, op, abc[0], abc[1], abc[2]);
        String want = stateOf(plain);
        int[] factors = {1, -1, 5, LEAST_INT / unit, MOST_INT / unit};
        for (int factor : factors) {
            int[] other = abc.clone();
            other[which] += unit * factor;
            Stair stair = ran(FULL_HOUSE);
            again(stair, op, other[0], other[1], other[2]);
            due("op " + op + " with " + other[0] + ", " + other[1] + ", " + other[2] + " doing as with the lowest bits",
                want.equals(stateOf(stair)) ? 1 : 0, 1);
        }
    }

    private static void testThreeBits() {
        says("Where a, b or c tell a NUMBER, HAND or SHELF, their lowest three bits do");
        int[] ofThree = {ADD, LESS, TIMES, DIVIDE, REST, USE, WEIGH, GRID_LOOK, GRID_PUT};
        for (int op : ofThree) {
            for (int which = 0; which < 3; which++) {
                dueToCutTo(8, op, which, 2, op == GRID_PUT || op == GRID_LOOK ? 1 : 6, 5);
            }
        }
        for (int which = 0; which < 3; which++) {
            dueToCutTo(8, RING, which, 3, 6, 4);
        }
        int[] ofTwo = {GIVE, MARK, MARK_PUT, GRID, IF};
        for (int op : ofTwo) {
            dueToCutTo(8, op, 0, 2, 5, 0);
            dueToCutTo(8, op, 1, 2, 5, 0);
        }
        int[] ofOne = {TELL, SET, RETURN, LOOP};
        for (int op : ofOne) {
            dueToCutTo(8, op, 0, 5, 77, 0);
        }
        dueToCutTo(8, THING, 0, 5, SAW, 4);
        dueToCutTo(8, THING, 2, 5, SAW, 4);
        dueToCutTo(8, CAST, 0, 5, SAW, 4);
        dueToCutTo(8, CAST, 2, 5, SAW, 4);
        int[] ofRows = {LOOK, PUT};
        for (int op : ofRows) {
            dueToCutTo(8, op, 1, 8 * LONGS + 2, 4, 5);
            dueToCutTo(8, op, 2, 8 * LONGS + 2, 4, 5);
            dueToCutTo(8, op, 2, 8 * THINGS + 3, 5, 4);
        }
        dueToCutTo(8, MAKE, 1, 8 * LONGS + 2, 4, 0);
        dueToCutTo(8, LENGTH, 1, 8 * LONGS + 2, 4, 0);
        dueToCutTo(8, ROUTINE, 1, 0, 5, 1);
    }

    /** NUMBERS 0 to 7 are 0, 10, 20 .. 70, and HANDS 0 to 7 have SAWS of these MARKS. */
    private static Stair manyHands() {
        StringBuilder text = new StringBuilder();
        for (int i = 0; i < 8; i++) {
            text.append("SET ").append(i).append(' ').append(10 * i).append("; THING ").append(i).append(" SAW ").append(i).append("; ");
        }
        return ran(text.toString());
    }

    /** After the step NUMBER 'changed' is this, and all other NUMBERS are as they were. */
    private static void dueNumber(String step, int changed, long number) {
        Stair stair = manyHands();
        again(stair, step);
        for (int i = 0; i < 8; i++) {
            due(step + ": NUMBER " + i, stair.number(i), i == changed ? number : 10 * i);
            due(step + ": HAND " + i, stair.mark(i), 10 * i);
        }
    }

    /** After the step the MARK of what HAND 'changed' has is this, and all others are as they were. */
    private static void dueMark(String step, int changed, long mark) {
        Stair stair = manyHands();
        again(stair, step);
        for (int i = 0; i < 8; i++) {
            due(step + ": HAND " + i, stair.mark(i), i == changed ? mark : 10 * i);
            due(step + ": NUMBER " + i, stair.number(i), 10 * i);
        }
    }

    private static void testEachOfEight() {
        says("na is NUMBER (a & 7), ha the HAND (a & 7), and so on.");
        for (int i = 0; i < 8; i++) {
            int j = (i + 3) % 8;
            int k = (i + 5) % 8;
            String abc = " " + i + " " + j + " " + k;
            dueNumber("SET" + abc, i, j);
            dueNumber("ADD" + abc, i, 10 * j + 10 * k);
            dueNumber("LESS" + abc, i, 10 * j - 10 * k);
            dueNumber("TIMES" + abc, i, 100 * j * k);
            if (k > 0) {
                dueNumber("DIVIDE" + abc, i, j / k);
                dueNumber("REST" + abc, i, 10 * (j % k));
            }
            dueNumber("MARK" + abc, j, 10 * i);
            dueNumber("USE" + abc, k, 10 * i - 10 * j);
            dueNumber("RING" + abc, k, 10 * i ^ 10 * j);
            dueNumber("WEIGH" + abc, k, 30 * j + 10 * i);
            dueNumber("CALL 1 " + i + "; MARK_OF 0; RETURN " + j, i, 10 * j);
            dueNumber("MAKE LONGS:" + k + " " + j + "; LENGTH LONGS:" + k + " " + i, i, 10 * j % 64);
            dueMark("MARK_PUT" + abc, i, 10 * j);
            dueMark("THING " + i + " HAMMER " + k, i, 10 * k);
            dueMark("GIVE" + abc, j, 10 * i);
            dueMark("CAST " + i + " SAW " + k, k, 10 * i);
            testPlacesOfEight(i, j, k);
            dueOutputs("TELL" + abc, tellingRun("TELL" + abc), 10 * i);
            dueEnd("RETURN" + abc, tellingRun("RETURN" + abc), BY_RETURN, 10 * i);
            due("IF" + abc, tellingRun("IF" + abc + "; TELL 1; END").status(4), i < j ? 1 : 0);
            due("LOOP" + abc, tellingRun("LOOP" + abc + "; BREAK; END").number(i), Math.max(10 * i - 1, 0));
        }
    }

    private static Stair tellingRun(String text) {
        Stair stair = manyHands();
        again(stair, text);
        return stair;
    }

    private static void testPlacesOfEight(int i, int j, int k) {
        Stair stair = manyHands();
        again(stair, "SET 7 7; MAKE LONGS:" + i + " 7; MAKE THINGS:" + i + " 7; GRID 7 7; SET 0 5; SET 1 1; SET 2 2; SET 3 3; SET 4 4; SET 5 6; SET 6 0");
        int[] numbers = {5, 1, 2, 3, 4, 6, 0, 7};
        if (i == 7 || j == 7) {
            // NUMBER 7 tells how many places there are, so it is no place itself.
            return;
        }
        again(stair, "PUT LONGS:" + i + " " + j + " " + k + "; PUT THINGS:" + i + " " + j + " " + k + "; GRID_PUT " + i + " " + j + " " + k);
        due("PUT at NUMBER " + j + " of NUMBER " + k, stair.value(LONGS, i, numbers[j]), numbers[k]);
        due("PUT at NUMBER " + j + " of HAND " + k, stair.value(THINGS, i, numbers[j]), SAW);
        due("GRID PUT at NUMBERS " + i + " and " + j + " of NUMBER " + k, stair.grid(numbers[i], numbers[j]), numbers[k]);
        again(stair, "LOOK THINGS:" + i + " " + j + " " + i);
        due("LOOK from HAND " + k + " into HAND " + i, stair.mark(i), 10 * k);
        again(stair, "SET " + k + " -1; LOOK LONGS:" + i + " " + j + " " + k);
        due("LOOK into NUMBER " + k, stair.number(k), numbers[k]);
        again(stair, "SET " + k + " -1; GRID_LOOK " + i + " " + j + " " + k);
        due("GRID LOOK into NUMBER " + k, stair.number(k), numbers[k]);
    }

    private static final String[] OF_INT_3 = {"3", "4294967299", "-4294967293", "9223372032559808515"};
    private static final String[] OF_INT_BELOW_0 = {"-1", "2147483648", "4294967295", "-9223372034707292160"};

    private static void testInts() {
        says("The INT of a NUMBER is its lowest 32 bits as an int.");
        String rows = "SET 2 5; MAKE LONGS:0 2; MAKE THINGS:0 2; GRID 2 2; SET 3 9; SET 4 3; THING 5 SAW 3; ";
        for (String x : OF_INT_3) {
            String given = rows + "LONG 1 " + x + "; ";
            due("MAKE of " + x, ran(given + "MAKE INTS:0 1").size(INTS, 0), 3);
            due("PUT at " + x, ran(given + "PUT LONGS:0 1 3").value(LONGS, 0, 3), 9);
            due("PUT of a THING at " + x, ran(given + "PUT THINGS:0 1 5").value(THINGS, 0, 3), SAW);
            due("LOOK at " + x, numberAfter(6, given + "PUT LONGS:0 4 3; LOOK LONGS:0 1 6"), 9);
            due("GRID of rows " + x, ran(given + "GRID 1 2; SET 1 2; GRID_PUT 1 1 3").grid(2, 2), 9);
            dueFailure("GRID of rows " + x, ran(given + "GRID 1 2; GRID_PUT 1 3 3"), INDEX);
            due("GRID of places " + x, ran(given + "GRID 2 1; SET 1 2; GRID_PUT 1 1 3").grid(2, 2), 9);
            dueFailure("GRID of places " + x, ran(given + "GRID 2 1; GRID_PUT 7 1 3"), INDEX);
            due("GRID PUT at row " + x, ran(given + "GRID_PUT 1 7 3").grid(3, 0), 9);
            due("GRID PUT at place " + x, ran(given + "GRID_PUT 7 1 3").grid(0, 3), 9);
            due("GRID PUT of " + x, ran(given + "GRID_PUT 4 4 1").grid(3, 3), 3);
            due("GRID LOOK at row " + x, numberAfter(6, given + "GRID_PUT 4 7 3; GRID_LOOK 1 7 6"), 9);
            due("GRID LOOK at place " + x, numberAfter(6, given + "GRID_PUT 7 4 3; GRID_LOOK 7 1 6"), 9);
        }
        for (String x : OF_INT_BELOW_0) {
            String given = rows + "LONG 1 " + x;
            dueToLeaveAll(given, "MAKE INTS:0 1", SIZE);
            dueToLeaveAll(given, "GRID 1 2", SIZE);
            dueToLeaveAll(given, "GRID 2 1", SIZE);
            dueToLeaveAll(given, "LOOK LONGS:0 1 6", INDEX);
            dueToLeaveAll(given, "PUT LONGS:0 1 3", INDEX);
            dueToLeaveAll(given, "PUT THINGS:0 1 5", INDEX);
            dueToLeaveAll(given, "GRID_LOOK 1 2 6", INDEX);
            dueToLeaveAll(given, "GRID_LOOK 2 1 6", INDEX);
            dueToLeaveAll(given, "GRID_PUT 1 2 3", INDEX);
            due("GRID PUT of " + x, ran(given + "; GRID_PUT 4 4 1").grid(3, 3), (int) Long.parseLong(x));
        }
    }

    private static Stair told(int outputs) {
        Stair stair = new Stair();
        due("steps", again(stair, "SET 1 " + outputs / 2 + "; LOOP 1; TELL 1; TELL 1; END" + (outputs % 2 == 1 ? "; TELL 1" : ""), 1000),
            2 + outputs / 2 + outputs);
        due("end", stair.end(), PLAINLY);
        return stair;
    }

    private static void testTell() {
        says("only the first 500 are kept");
        due("499", told(499).status(4), 499);
        due("500", told(500).status(4), 500);
        due("500: the last", told(500).out(499), 0);
        due("501", told(501).status(4), 500);
        Stair stair = told(640);
        due("640", stair.status(4), 500);
        due("640: the first", stair.out(0), 319);
        due("640: the last that is kept", stair.out(499), 70);
        due("640: behind it", stair.out(500), 0);
        again(stair, "SET 2 4; TELL 2");
        dueOutputs("the next run", stair, 4);
    }

    private static void testSet() {
        says("1 SET: na is b.");
        due("least", numberAfter(1, "SET 1 " + LEAST_INT), LEAST_INT);
        due("most", numberAfter(1, "SET 1 " + MOST_INT), MOST_INT);
        due("-1", numberAfter(1, "SET 1 -1"), -1);
        due("0", numberAfter(1, "SET 1 5; SET 1 0"), 0);
    }

    private static void testDivide() {
        says("5 DIVIDE: na is nb / nc towards 0 (the least long by -1 is itself)");
        due("7 / 2", numberAfter(3, "SET 1 7; SET 2 2; DIVIDE 3 1 2"), 3);
        due("-7 / 2", numberAfter(3, "SET 1 -7; SET 2 2; DIVIDE 3 1 2"), -3);
        due("7 / -2", numberAfter(3, "SET 1 7; SET 2 -2; DIVIDE 3 1 2"), -3);
        due("-7 / -2", numberAfter(3, "SET 1 -7; SET 2 -2; DIVIDE 3 1 2"), 3);
        due("-1 / 2", numberAfter(3, "SET 1 -1; SET 2 2; DIVIDE 3 1 2"), 0);
        due("least / -1", numberAfter(3, "LONG 1 " + LEAST + "; SET 2 -1; DIVIDE 3 1 2"), LEAST);
        due("greatest / -1", numberAfter(3, "LONG 1 " + MOST + "; SET 2 -1; DIVIDE 3 1 2"), -MOST);
        due("0 / 5", numberAfter(3, "SET 3 9; SET 2 5; DIVIDE 3 1 2"), 0);
        says("DIVISION when nc is 0.");
        dueToLeaveAll("SET 1 7; SET 3 9", "DIVIDE 3 1 2", DIVISION);
        dueToLeaveAll("SET 3 9", "DIVIDE 3 1 2", DIVISION);
        due("nc is not 0, its INT is", numberAfter(3, "LONG 1 8589934592; LONG 2 4294967296; DIVIDE 3 1 2"), 2);
        due("na is nc", numberAfter(2, "SET 1 7; SET 2 2; DIVIDE 2 1 2"), 3);
    }

    private static void testRest() {
        says("6 REST: na is what is left by that; DIVISION when nc is 0.");
        due("7, 2", numberAfter(3, "SET 1 7; SET 2 2; REST 3 1 2"), 1);
        due("-7, 2", numberAfter(3, "SET 1 -7; SET 2 2; REST 3 1 2"), -1);
        due("7, -2", numberAfter(3, "SET 1 7; SET 2 -2; REST 3 1 2"), 1);
        due("-7, -2", numberAfter(3, "SET 1 -7; SET 2 -2; REST 3 1 2"), -1);
        due("least, -1", numberAfter(3, "SET 3 9; LONG 1 " + LEAST + "; SET 2 -1; REST 3 1 2"), 0);
        due("least, greatest", numberAfter(3, "LONG 1 " + LEAST + "; LONG 2 " + MOST + "; REST 3 1 2"), -1);
        due("nc is not 0, its INT is", numberAfter(3, "LONG 1 8589934599; LONG 2 4294967296; REST 3 1 2"), 7);
        dueToLeaveAll("SET 1 7; SET 3 9", "REST 3 1 2", DIVISION);
        dueToLeaveAll("SET 3 9", "REST 3 1 2", DIVISION);
    }

    private static void testSortAndShelf() {
        says("the sort is a / 8 & 7 (a >> 3 & 7), the SHELF a & 7");
        for (int a = 0; a < 64; a++) {
            int[] same = {a, a + 64, a - 64, a + 64 * 1000, a - 64 * 1000, LEAST_INT + a, MOST_INT - 63 + a};
            for (int other : same) {
                Stair stair = ran("SET 1 1; MAKE " + other + " 1");
                due("MAKE " + other, stair.size(a / 8, a % 8), 1);
                again(stair, "LENGTH " + a + " 2; PUT " + a + " 0 1; LOOK " + other + " 0 3; LENGTH " + other + " 4");
                due("LENGTH " + a, stair.number(2), 1);
                due("LENGTH " + other, stair.number(4), 1);
                due("LOOK " + other, stair.number(3), a / 8 == THINGS ? 0 : 1);
                due("MAKE " + other + " alone", rowsOf(stair), 1);
            }
        }
    }

    private static int rowsOf(Stair stair) {
        int rows = 0;
        for (int i = 0; i < 64; i++) {
            rows += stair.size(i / 8, i % 8) >= 0 ? 1 : 0;
        }
        return rows;
    }

    private static void testMake() {
        says("a ROW of the INT of nb places comes there");
        says("numbers 0, no THINGS");
        for (int sort = 0; sort < 8; sort++) {
            Stair stair = ran("SET 1 63; MAKE " + (8 * sort + 7) + " 1");
            due("sort " + sort, stair.size(sort, 7), 63);
            for (int i = 0; i < 63; i++) {
                due("sort " + sort + ", place " + i, stair.value(sort, 7, i), sort == THINGS ? -1 : 0);
            }
            due("sort " + sort + ", behind the last", stair.value(sort, 7, 63), 0);
            due("sort " + sort + ", empty", ran("MAKE " + 8 * sort).size(sort, 0), 0);
            dueToLeaveAll("MAKE " + 8 * sort, "LOOK " + 8 * sort, INDEX);
            dueToLeaveAll("MAKE " + 8 * sort, "PUT " + 8 * sort, INDEX);
        }
    }

    private static void testMakeTakesThePlace() {
        says("(it takes the place of one that was there)");
        for (int sort = 0; sort < 8; sort++) {
            String row = Integer.toString(8 * sort);
            String given = "SET 1 3; SET 2 2; SET 3 4; THING 1 SAW; MAKE " + row + " 1; PUT " + row + " 2 1; ";
            int empty = sort == THINGS ? -1 : 0;
            due("as long", ran(given + "MAKE " + row + " 1").value(sort, 0, 2), empty);
            Stair full = filled(row);
            due("full", full.value(sort, 0, 0) * full.value(sort, 0, 62), 1);
            again(full, "MAKE " + row + " 6");
            for (int i = 0; i < 63; i++) {
                due("a full one of 63 places: place " + i, full.value(sort, 0, i), empty);
            }
            Stair stair = ran(given + "MAKE " + row + " 2");
            due("shorter", stair.size(sort, 0), 2);
            due("shorter: the place is gone", stair.value(sort, 0, 2), 0);
            again(stair, "LOOK " + row + " 2 6");
            dueFailure("shorter: the place is gone", stair, INDEX);
            again(stair, "MAKE " + row + " 3");
            due("longer", stair.size(sort, 0), 4);
            for (int i = 0; i < 4; i++) {
                due("longer: place " + i, stair.value(sort, 0, i), empty);
            }
            again(stair, "MAKE " + row + " 0");
            due("of no places", stair.size(sort, 0), 0);
        }
    }

    private static void testMakeOnEachShelf() {
        says("the sort is a / 8 & 7 (a >> 3 & 7), the SHELF a & 7");
        for (int sort = 0; sort < 8; sort++) {
            Stair stair = ran("SET 1 1; SET 2 2; SET 3 3; SET 4 4; SET 5 5; SET 6 6; SET 7 7; THING 1 SAW");
            int[] sizes = new int[8];
            for (int i = 0; i < 24; i++) {
                int shelf = i % 8;
                int number = (shelf + 3 + i / 8) % 8;
                String row = Integer.toString(8 * sort + shelf);
                again(stair, "MAKE " + row + " " + number + "; LENGTH " + row + " 0; OPEN ALL; PUT " + row + " 0 1; TAKER; CLOSE; SET 0 0");
                sizes[shelf] = number;
                for (int other = 0; other < 8; other++) {
                    due("ROW " + sort + ", " + other + " after MAKE on " + shelf, stair.size(sort, other), i < other ? -1 : sizes[other]);
                }
            }
        }
    }

    /** A ROW of 63 places that has the number 1, or a SAW, in each; NUMBER 6 is 63. */
    private static Stair filled(String row) {
        return ran("SET 1 1; THING 1 SAW; SET 6 63; SET 2 63; MAKE " + row + " 6; LOOP 2; PUT " + row + " 2 1; END");
    }

    private static void testMakeForSawsAlone() {
        says("with c odd and sort 7 one that has SAWS alone");
        int[] odd = {1, 3, -1, LEAST_INT + 1, MOST_INT};
        int[] even = {0, 2, -2, LEAST_INT, MOST_INT - 1};
        for (int c : odd) {
            String given = "SET 1 1; THING 1 HAMMER; MAKE THINGS:0 1 " + c;
            dueToLeaveAll(given, "PUT THINGS:0 0 1", STORE);
            Stair stair = ran(given);
            again(stair, "MAKE THINGS:0 1 0; PUT THINGS:0 0 1");
            due("a new ROW with c even", stair.value(THINGS, 0, 0), HAMMER);
            again(stair, "MAKE THINGS:0 1 " + c);
            dueToLeaveAll(given, "PUT THINGS:0 0 1", STORE);
            due("a ROW of numbers has none", ran("SET 1 1; THING 1 HAMMER; MAKE LONGS:0 1 " + c + "; PUT LONGS:0 0 1").value(LONGS, 0, 0), 1);
        }
        for (int c : even) {
            due("c is " + c, ran("SET 1 1; THING 1 HAMMER; MAKE THINGS:0 1 " + c + "; PUT THINGS:0 0 1").value(THINGS, 0, 0), HAMMER);
        }
    }

    private static void testMakeSize() {
        says("SIZE when the INT is below 0; only its lowest six bits count else.");
        long[][] sizes = {{0, 0}, {1, 1}, {62, 62}, {63, 63}, {64, 0}, {65, 1}, {127, 63}, {128, 0}, {MOST_INT, 63},
            {1L << 32, 0}, {(1L << 32) + 5, 5}, {-(1L << 32), 0}, {MOST - 0xffffffffL, 0}, {LEAST, 0}};
        for (long[] size : sizes) {
            for (int sort = 0; sort < 8; sort += 7) {
                due("MAKE of " + size[0], ran("LONG 1 " + size[0] + "; MAKE " + 8 * sort + " 1").size(sort, 0), size[1]);
            }
        }
        long[] below = {-1, -64, LEAST_INT, 1L << 31, (1L << 32) - 1, MOST, -(1L << 32) - 1};
        for (long x : below) {
            dueToLeaveAll("LONG 1 " + x, "MAKE BYTES:0 1", SIZE);
            dueToLeaveAll("SET 1 2; THING 1 HAMMER; MAKE THINGS:0 1; SET 2 1; PUT THINGS:0 2 1; LONG 1 " + x, "MAKE THINGS:0 1 1", SIZE);
        }
        Stair stair = ran("SET 1 1; MAKE THINGS:0 1; THING 1 HAMMER; SET 1 -1");
        again(stair, "MAKE THINGS:0 1 1");
        again(stair, "PUT THINGS:0 0 1");
        due("a ROW that was left does not have SAWS alone", stair.value(THINGS, 0, 0), HAMMER);
    }

    private static void testLook() {
        says("NONE when there is no ROW; else INDEX when there is no such place.");
        for (int sort = 0; sort < 8; sort++) {
            String row = Integer.toString(8 * sort + 1);
            String given = "SET 1 3; SET 2 -1; SET 3 55; THING 3 SAW; SET 4 2; MAKE " + row + " 1; ";
            String[] ops = {"LOOK", "PUT"};
            for (String op : ops) {
                dueToLeaveAll("SET 2 -1; SET 3 55; THING 3 SAW", op + " " + row + " 2 3", NONE);
                dueToLeaveAll(given, op + " " + row + " 1 3", INDEX);
                dueToLeaveAll(given, op + " " + row + " 2 3", INDEX);
                dueToLeaveAll(given, op + " " + (8 * sort + 2) + " 0 3", NONE);
                dueToLeaveAll(given, op + " " + (8 * ((sort + 1) % 8) + 1) + " 0 3", NONE);
                dueEnd(op + " at the last place", ran(given + op + " " + row + " 4 3"), PLAINLY, 0);
                dueEnd(op + " at the first place", ran(given + op + " " + row + " 0 3"), PLAINLY, 0);
            }
        }
        says("of sort 7 the THING or nothing comes into hc");
        Stair stair = ran("SET 1 2; MAKE THINGS:0 1; THING 1 CHISEL 1; PUT THINGS:0 0 1; THING 2 HAMMER; SET 3 1");
        again(stair, "LOOK THINGS:0 0 3; MARK_PUT 1 3");
        due("the THING", stair.hand(3), CHISEL);
        due("the same one", stair.mark(3), 1);
        again(stair, "LOOK THINGS:0 3 2");
        due("nothing", stair.hand(2), -1);
        due("the NUMBER stays", stair.number(3), 1);
    }

    private static long keptAs(String sort, long x) {
        Stair stair = ran("SET 1 1; MAKE " + sort + ":0 1; LONG 2 " + x + "; PUT " + sort + ":0 0 2; LOOK " + sort + ":0 0 3");
        due("LOOK being as value()", stair.number(3), stair.value(sortOf(sort), 0, 0));
        return stair.number(3);
    }

    private static void testLookAtFloats() {
        says("of a float or double what is nearest towards 0, the least or greatest long beyond these");
        due("greatest, a float", keptAs("FLOATS", MOST), MOST);
        due("greatest, a double", keptAs("DOUBLES", MOST), MOST);
        due("least, a float", keptAs("FLOATS", LEAST), LEAST);
        due("least, a double", keptAs("DOUBLES", LEAST), LEAST);
        due("least + 1, a double", keptAs("DOUBLES", LEAST + 1), LEAST);
        due("- greatest, a float", keptAs("FLOATS", -MOST), LEAST);
        due("the first that becomes 2^63, a float", keptAs("FLOATS", MOST - (1L << 38) + 1), MOST);
        due("the last that does not, a float", keptAs("FLOATS", MOST - (1L << 38)), MOST - (1L << 39) + 1);
        due("the first that becomes 2^63, a double", keptAs("DOUBLES", MOST - 511), MOST);
        due("the last that does not, a double", keptAs("DOUBLES", MOST - 512), MOST - 1023);
        due("0, a float", keptAs("FLOATS", 0), 0);
        due("-1, a double", keptAs("DOUBLES", -1), -1);
    }

    private static void testPutLowestBits() {
        says("(bytes, chars, shorts, ints: its lowest bits;");
        String[] sorts = {"BYTES", "CHARS", "SHORTS", "INTS", "LONGS"};
        for (String sort : sorts) {
            int bits = sort.equals("BYTES") ? 8 : sort.equals("INTS") ? 32 : sort.equals("LONGS") ? 64 : 16;
            long low = sort.equals("CHARS") ? 0 : -1L << (bits - 1);
            long high = sort.equals("CHARS") ? 65535 : -(low + 1);
            due(sort + " least", keptAs(sort, low), low);
            due(sort + " most", keptAs(sort, high), high);
            due(sort + " beyond the most", keptAs(sort, high + 1), low);
            due(sort + " below the least", keptAs(sort, low - 1), high);
            due(sort + " 0", keptAs(sort, 0), 0);
            if (bits < 64) {
                due(sort + " far above", keptAs(sort, (1L << bits) + 5), 5);
                due(sort + " far below", keptAs(sort, LEAST + 7), 7);
            }
        }
    }

    private static void testPutNearest() {
        says("the nearest one, of two as near the one that is even)");
        for (int sign = -1; sign <= 1; sign += 2) {
            testTies("FLOATS", 1L << 24, sign);
            testTies("FLOATS", 1L << 40, sign);
            testTies("DOUBLES", 1L << 53, sign);
            testTies("DOUBLES", 1L << 60, sign);
        }
        due("the last that all floats have", keptAs("FLOATS", (1L << 24) - 1), (1L << 24) - 1);
        due("the last that all doubles have", keptAs("DOUBLES", (1L << 53) - 1), (1L << 53) - 1);
        due("no double in between", keptAs("FLOATS", (1L << 60) + (1L << 36) + 1), (1L << 60) + (1L << 37));
    }

    /** From 'power' on the next ones that there are lie 2 * half apart. */
    private static void testTies(String sort, long power, int sign) {
        long half = sort.equals("FLOATS") ? power >> 24 : power >> 53;
        String what = sort + " " + sign + " * (" + power + " + ";
        due(what + "half)", keptAs(sort, sign * (power + half)), sign * power);
        due(what + "3 halves)", keptAs(sort, sign * (power + 3 * half)), sign * (power + 4 * half));
        due(what + "5 halves)", keptAs(sort, sign * (power + 5 * half)), sign * (power + 4 * half));
        due(what + "2 halves)", keptAs(sort, sign * (power + 2 * half)), sign * (power + 2 * half));
        if (half > 1) {
            due(what + "half - 1)", keptAs(sort, sign * (power + half - 1)), sign * power);
            due(what + "half + 1)", keptAs(sort, sign * (power + half + 1)), sign * (power + 2 * half));
        }
    }

    private static void testPutThings() {
        says("of sort 7 what hc has.");
        Stair stair = ran("SET 1 1; MAKE THINGS:0 1; THING 1 HAMMER 1; PUT THINGS:0 0 1");
        due("a HAMMER", stair.value(THINGS, 0, 0), HAMMER);
        again(stair, "THING 1 SAW; LOOK THINGS:0 0 2");
        due("the one that the HAND had then", stair.mark(2), 1);
        again(stair, "PUT THINGS:0 0 6");
        due("nothing", stair.value(THINGS, 0, 0), -1);
    }

    private static void testPutStore() {
        says("then, of a ROW that has SAWS alone, STORE when hc has a HAMMER.");
        String given = "SET 1 2; MAKE THINGS:0 1 1; THING 1 HAMMER; THING 2 SAW; THING 3 CHISEL; SET 2 -1; PUT THINGS:0 0 2";
        dueToLeaveAll(given, "PUT THINGS:0 0 1", STORE);
        dueToLeaveAll(given, "PUT THINGS:0 1 1", INDEX);
        dueToLeaveAll(given, "PUT THINGS:0 2 1", INDEX);
        dueToLeaveAll(given, "PUT THINGS:1 0 1", NONE);
        due("a CHISEL", ran(given + "; PUT THINGS:0 0 3").value(THINGS, 0, 0), CHISEL);
        due("nothing", ran(given + "; PUT THINGS:0 0 4").value(THINGS, 0, 0), -1);
        due("a ROW that has any", ran(given + "; MAKE THINGS:1 1; PUT THINGS:1 0 1").value(THINGS, 1, 0), HAMMER);
    }

    private static void testLength() {
        says("10 LENGTH: nb is how many places the ROW has; NONE.");
        for (int sort = 0; sort < 8; sort++) {
            String row = Integer.toString(8 * sort + 6);
            due("0 places", numberAfter(2, "SET 2 9; MAKE " + row + " 1; LENGTH " + row + " 2"), 0);
            due("63 places", numberAfter(2, "SET 1 63; MAKE " + row + " 1; LENGTH " + row + " 2"), 63);
            dueToLeaveAll("SET 2 9", "LENGTH " + row + " 2", NONE);
        }
    }

    private static void testGrid() {
        says("the GRID is made anew, INT of na rows of INT of nb places each, all 0.");
        Stair stair = ran("SET 1 3; SET 2 4; GRID 1 2; SET 3 2; SET 4 3; GRID_PUT 3 4 1");
        due("2, 3", stair.grid(2, 3), 3);
        again(stair, "GRID 1 2");
        due("anew", stair.grid(2, 3), 0);
        again(stair, "GRID_PUT 3 4 1; GRID 2 1");
        due("rows and places the other way", stair.grid(2, 3), 0);
        again(stair, "GRID_PUT 4 3 1");
        due("3, 2", stair.grid(3, 2), 3);
        again(stair, "GRID_PUT 3 4 1");
        dueFailure("there is no 2, 3", stair, INDEX);
        again(stair, "GRID 3 3; GRID 2 1");
        due("smaller, then as before", stair.grid(3, 2), 0);
        again(stair, "GRID 1 2; GRID_PUT 3 4 1; GRID_PUT 0 0 2");
        due("the last of one row", stair.grid(2, 3), 3);
        due("the first", stair.grid(0, 0), 4);
    }

    private static void testGridSize() {
        says("SIZE when one of both INTS is below 0; only the lowest three bits of each count else.");
        String given = "SET 1 2; SET 2 -1; SET 3 1; GRID 1 1; GRID_PUT 3 3 1; LONG 4 2147483648; SET 5 " + LEAST_INT;
        String[] steps = {"GRID 2 1", "GRID 1 2", "GRID 2 2", "GRID 4 1", "GRID 1 4", "GRID 5 0", "GRID 0 5"};
        for (String step : steps) {
            dueToLeaveAll(given, step, SIZE);
            Stair stair = ran("SET 1 2; SET 2 -1; LONG 4 2147483648; SET 5 " + LEAST_INT);
            again(stair, step);
            again(stair, "GRID_LOOK 0 0 0");
            dueFailure(step + " makes none", stair, NONE);
        }
        long[][] sizes = {{0, 0}, {1, 1}, {7, 7}, {8, 0}, {9, 1}, {15, 7}, {16, 0}, {MOST_INT, 7}, {1L << 32, 0}, {-(1L << 32) + 3, 3}};
        for (long[] size : sizes) {
            String sides = "LONG 1 " + size[0] + "; SET 2 1; ";
            dueGridOf(sides + "GRID 1 2", (int) size[1], 1);
            dueGridOf(sides + "GRID 2 1", 1, (int) size[1]);
        }
    }

    /** The steps make a GRID of so many rows and places: 'rows - 1' and 'places - 1' are the last it has. */
    private static void dueGridOf(String steps, int rows, int places) {
        Stair stair = ran(steps);
        due(steps + ": end", stair.end(), PLAINLY);
        int[][] around = {{rows - 1, places - 1}, {rows, places - 1}, {rows - 1, places}, {rows, 0}, {0, places}, {0, 0}};
        for (int[] at : around) {
            boolean has = at[0] >= 0 && at[0] < rows && at[1] >= 0 && at[1] < places;
            again(stair, "SET 1 " + at[0] + "; SET 2 " + at[1] + "; SET 3 5; GRID_PUT 1 2 3");
            due(steps + ": PUT at " + at[0] + ", " + at[1], stair.kind(), has ? -1 : INDEX);
            due(steps + ": grid(" + at[0] + ", " + at[1] + ")", stair.grid(at[0], at[1]), has ? 5 : 0);
        }
    }

    private static void testGridLook() {
        says("NONE without a GRID; else INDEX when there is no such row, or no such place.");
        dueToLeaveAll("SET 1 -1; SET 6 9", "GRID_LOOK 1 1 6", NONE);
        dueToLeaveAll("SET 1 2; SET 2 3; SET 6 9; GRID 1 2", "GRID_LOOK 1 0 6", INDEX);
        dueToLeaveAll("SET 1 2; SET 2 3; SET 6 9; GRID 1 2", "GRID_LOOK 0 2 6", INDEX);
        dueToLeaveAll("SET 1 2; SET 2 3; SET 3 -1; SET 6 9; GRID 1 2", "GRID_LOOK 3 0 6", INDEX);
        dueToLeaveAll("SET 1 2; SET 2 3; SET 3 -1; SET 6 9; GRID 1 2", "GRID_LOOK 0 3 6", INDEX);
        dueToLeaveAll("SET 6 9; GRID 0 0", "GRID_LOOK 0 0 6", INDEX);
        dueToLeaveAll("SET 1 2; SET 6 9; GRID 1 0", "GRID_LOOK 0 0 6", INDEX);
        dueToLeaveAll("SET 1 2; SET 6 9; GRID 0 1", "GRID_LOOK 0 0 6", INDEX);
        due("the last place", numberAfter(6, "SET 1 2; SET 2 3; GRID 1 2; SET 1 1; SET 2 2; SET 3 -8; GRID_PUT 1 2 3; GRID_LOOK 1 2 6"), -8);
    }

    private static void testGridPut() {
        says("there the INT of nc. NONE, INDEX likewise.");
        dueToLeaveAll("SET 1 -1; SET 6 9", "GRID_PUT 1 1 6", NONE);
        dueToLeaveAll("SET 1 2; SET 2 3; SET 6 9; GRID 1 2", "GRID_PUT 1 0 6", INDEX);
        dueToLeaveAll("SET 1 2; SET 2 3; SET 6 9; GRID 1 2", "GRID_PUT 0 2 6", INDEX);
        dueToLeaveAll("SET 1 2; SET 2 3; SET 3 -1; SET 6 9; GRID 1 2", "GRID_PUT 3 2 6", INDEX);
        dueToLeaveAll("SET 1 2; SET 2 3; SET 3 -1; SET 6 9; GRID 1 2", "GRID_PUT 0 3 6", INDEX);
        dueToLeaveAll("SET 6 9; GRID 0 0", "GRID_PUT 0 0 6", INDEX);
        long[][] kept = {{MOST_INT, MOST_INT}, {LEAST_INT, LEAST_INT}, {1L << 31, LEAST_INT}, {-(1L << 31) - 1, MOST_INT},
            {1L << 32, 0}, {MOST, -1}, {LEAST, 0}};
        for (long[] pair : kept) {
            Stair stair = ran("SET 1 1; GRID 1 1; LONG 2 " + pair[0] + "; GRID_PUT 0 0 2; GRID_LOOK 0 0 3");
            due("PUT of " + pair[0], stair.grid(0, 0), pair[1]);
            due("LOOK at " + pair[0], stair.number(3), pair[1]);
        }
    }
}
