/** Promises 9 and 13, and the steps TELL to REST. */
final class NumberTest extends TestBase {
    public static void main(String[] args) {
        testSet();
        testReckoning();
        testWrapping();
        testDivision();
        testOutputs();
        testNumbersStay();
        close();
    }

    private static void testSet() {
        Stair stair = ran(SET, 0, 5, 0, SET, 9, -6, 0, SET, -1, Integer.MIN_VALUE, 0, SET, 2, Integer.MAX_VALUE, 0);
        due("number 0", stair.number(0), 5);
        due("number 1", stair.number(1), -6);
        due("number 7", stair.number(7), Integer.MIN_VALUE);
        due("number 2", stair.number(2), Integer.MAX_VALUE);
        due("number 8", stair.number(8), 0);
        due("number -1", stair.number(-1), 0);
        due("number most", stair.number(Integer.MAX_VALUE), 0);
    }

    private static long reckoned(int op, int x, int y) {
        return ran(SET, 1, x, 0, SET, 2, y, 0, op, 11, 9, 10).number(3);
    }

    private static void testReckoning() {
        due("ADD", reckoned(ADD, 5, -7), -2);
        due("LESS", reckoned(LESS, 5, -7), 12);
        due("TIMES", reckoned(TIMES, 5, -7), -35);
        due("DIVIDE", reckoned(DIVIDE, 17, 5), 3);
        due("DIVIDE -", reckoned(DIVIDE, -17, 5), -3);
        due("DIVIDE by -", reckoned(DIVIDE, 17, -5), -3);
        due("REST", reckoned(REST, 17, 5), 2);
        due("REST -", reckoned(REST, -17, 5), -2);
        due("REST by -", reckoned(REST, 17, -5), 2);
        due("ADD beyond an int", reckoned(ADD, Integer.MAX_VALUE, 1), 2147483648L);
    }

    /** NUMBER 1 is the least long then, NUMBER 2 is -1. */
    private static final int[] LEAST = {SET, 1, Integer.MIN_VALUE, 0, TIMES, 1, 1, 1, ADD, 1, 1, 1, SET, 2, -1, 0};

    private static Stair least(int op, int a, int b, int c) {
        Stair stair = ran(LEAST);
        due("the least long", stair.number(1), Long.MIN_VALUE);
        again(stair, op, a, b, c);
        return stair;
    }

    private static void testWrapping() {
        due("ADD wraps", least(ADD, 3, 1, 2).number(3), Long.MAX_VALUE);
        due("LESS wraps", least(LESS, 3, 0, 1).number(3), Long.MIN_VALUE);
        due("TIMES wraps", least(TIMES, 3, 1, 2).number(3), Long.MIN_VALUE);
        due("DIVIDE of the least by -1", least(DIVIDE, 3, 1, 2).number(3), Long.MIN_VALUE);
        due("REST of the least by -1", least(REST, 3, 1, 2).number(3), 0);
    }

    private static void testDivision() {
        int[] ops = {DIVIDE, REST};
        for (int op : ops) {
            Stair stair = ran(SET, 1, 4, 0, op, 1, 1, 0);
            dueFailure("op " + op + " by 0", stair, DIVISION);
            due("op " + op + " by 0 leaves the number", stair.number(1), 4);
        }
        due("others do not look", reckoned(ADD, 3, 0), 3);
    }

    private static void testOutputs() {
        Stair stair = ran(SET, 2, 8, 0, SET, 1, 440, 0, LOOP, 1, 0, 0, TELL, 9, 0, 0, END, 0, 0, 0);
        due("outputs", stair.status(4), 440);
        due("out(0)", stair.out(0), 439);
        due("out(439)", stair.out(439), 0);
        due("out(440)", stair.out(440), 0);
        due("out(-1)", stair.out(-1), 0);
        due("out(least)", stair.out(Integer.MIN_VALUE), 0);
        due("out(most)", stair.out(Integer.MAX_VALUE), 0);
        again(stair, TELL, 2, 0, 0);
        dueOutputs("of the latest run", stair, 8);
        testOnly500();
    }

    private static void testOnly500() {
        Stair stair = new Stair();
        add(stair, ROUTINE, 0, 0, 0, SET, 1, 300, 0, LOOP, 1, 0, 0, TELL, 1, 0, 0, TELL, 1, 0, 0, END, 0, 0, 0);
        due("steps", stair.run(0, 1000), 902);
        due("only 500 are kept", stair.status(4), 500);
        due("out(499)", stair.out(499), 50);
        due("out(500)", stair.out(500), 0);
        due("ended", stair.end(), PLAINLY);
    }

    private static void testNumbersStay() {
        Stair stair = ran(SET, 1, 5, 0);
        again(stair, ADD, 2, 1, 1);
        due("from run to run", stair.number(2), 10);
        again(stair, SET, 1, 6, 0, THROW, 0, 0, 0);
        due("also when a run failed", stair.number(1), 6);
    }
}
