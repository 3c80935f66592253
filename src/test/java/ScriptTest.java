/** Promises 1, 2 and 3: a new object, step and wipe. */
final class ScriptTest extends TestBase {
    public static void main(String[] args) {
        testNewObject();
        testStep();
        testFullScript();
        testWipe();
        testWipeForgetsBlocks();
        close();
    }

    private static void testNewObject() {
        Stair stair = new Stair();
        due("new: end", stair.end(), -1);
        due("new: result", stair.result(), 0);
        due("new: kind", stair.kind(), -1);
        due("new: cause", stair.cause(0), -1);
        due("new: out", stair.out(0), 0);
        due("new: finished", stair.finished(0), -1);
        due("new: depth", stair.depth(), 0);
        for (int what = 0; what < 8; what++) {
            due("new: status " + what, stair.status(what), 0);
        }
        for (int i = 0; i < 8; i++) {
            due("new: number", stair.number(i), 0);
            due("new: hand", stair.hand(i), -1);
            due("new: mark", stair.mark(i), 0);
            for (int sort = 0; sort < 8; sort++) {
                due("new: size", stair.size(sort, i), -1);
                due("new: value", stair.value(sort, i, 0), 0);
            }
            due("new: grid", stair.grid(i, 0), 0);
        }
        due("new: run", stair.run(0, 1), -1);
        due("new: wipe", stair.wipe(), 0);
    }

    private static void testStep() {
        Stair stair = new Stair();
        for (int op = 0; op < 36; op++) {
            due("step " + op, stair.step(op, -1, Integer.MIN_VALUE, Integer.MAX_VALUE), op + 1);
        }
        int[] bad = {-1, 36, Integer.MIN_VALUE, Integer.MAX_VALUE};
        for (int op : bad) {
            due("step " + op, stair.step(op, 0, 0, 0), -1);
        }
        due("steps", stair.status(0), 36);
    }

    private static void testFullScript() {
        Stair stair = Stair.ofAnyCalls();
        for (int i = 1; i <= 2000; i++) {
            due("step", stair.step(i == 1000 ? ROUTINE : TELL, 0, 0, 0), i);
        }
        due("one too many", stair.step(TELL, 0, 0, 0), -2);
        due("no op, and one too many", stair.step(36, 0, 0, 0), -1);
        due("steps", stair.status(0), 2000);
        due("run of the last 1,000", stair.run(0, 1000), 1000);
        due("ended", stair.end(), PLAINLY);
        due("outputs kept", stair.status(4), 500);
        due("wipe", stair.wipe(), 2000);
        due("step", stair.step(TELL, 0, 0, 0), 1);
    }

    private static void testWipe() {
        Stair stair = ran(SET, 1, 7, 0, THING, 2, SAW, 1, MAKE, 8 * INTS, 1, 0, GRID, 1, 1, 0, TELL, 1, 0, 0,
            OPEN, ALL, 0, 0, THROW, THEFT, 0, 0, TAKER, 0, 0, 0, INSTEAD, FIRE, 0, 0, FINISH, 0, 0, 0, CLOSE, 0, 0, 0);
        due("wipe", stair.wipe(), 12);
        due("wiped: steps", stair.status(0), 0);
        due("wiped: routines", stair.status(1), 0);
        due("wiped: steps of all runs", stair.status(2), 8);
        due("wiped: runs", stair.status(3), 1);
        due("wiped: taken", stair.status(7), 1);
        due("wiped: number", stair.number(1), 7);
        due("wiped: hand", stair.hand(2), SAW);
        due("wiped: mark", stair.mark(2), 7);
        due("wiped: size", stair.size(INTS, 0), 7);
        due("wiped: depth", stair.depth(), 2);
        dueOutputs("wiped", stair, 7);
        dueFinished("wiped", stair, 6);
        dueFailure("wiped", stair, FIRE, THEFT);
        due("wiped: run", stair.run(0, 10), -1);
        dueFailure("wiped, refused", stair, FIRE, THEFT);
        due("wipe again", stair.wipe(), 0);
    }

    /** A BLOCK of a wiped script takes nothing of the next one. */
    private static void testWipeForgetsBlocks() {
        Stair stair = new Stair();
        add(stair, ROUTINE, 0, 0, 0, OPEN, ALL, 0, 0);
        stair.wipe();
        add(stair, TAKER, 0, 0, 0, ROUTINE, 0, 0, 0, OPEN, ALL, 0, 0, THROW, 0, 0, 0, CLOSE, 0, 0, 0);
        due("run", stair.run(0, 10), 2);
        dueFailure("no TAKER of its own", stair, ALARM);
    }
}
