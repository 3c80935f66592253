/**
 * Every script of up to four steps of those that make, end or leave parts, with every number of steps up to
 * some, worked by TrialStair and by the Oracle: what belongs to which BLOCK, empty and unended parts, and
 * a run that is SPENT at each of its steps.
 */
final class SmallScriptTest extends TestBase {
    private static final int LONGEST = 4;

    /** The last is enough for all that end by themselves; the routine's first step is a SET. */
    private static final int[] STEPS_OF_RUNS = {2, 3, 4, 5, 6, 40};

    private static final int[][] STEPS = {
        {OPEN, ALL, 0, 0}, {OPEN, 2, 0, 0}, {TAKER, 0, 0, 0}, {FINISH, 0, 0, 0}, {CLOSE, 0, 0, 0},
        {LOOP, 1, 0, 0}, {IF, 0, 1, 0}, {END, 0, 0, 0}, {TELL, 1, 0, 0}, {THROW, FIRE, 0, 0}, {THROW, THEFT, 0, 0},
        {INSTEAD, ALARM, 0, 0}, {BREAK, 0, 0, 0}, {AGAIN, 0, 0, 0}, {RETURN, 1, 0, 0},
        {ROUTINE, 0, 0, 0}, {ROUTINE, 0, 2, 1}, {ROUTINE, 1, 2, 1}
    };

    private static Stair stair = new Stair();
    private static Oracle oracle = new Oracle();

    public static void main(String[] args) {
        for (int length = 0; length <= LONGEST; length++) {
            int scripts = 1;
            for (int i = 0; i < length; i++) {
                scripts *= STEPS.length;
            }
            for (int script = 0; script < scripts; script++) {
                work(script, length);
            }
        }
        close();
    }

    private static void work(int script, int length) {
        if (stair.callsLeft() < 100) {
            stair = new Stair();
            oracle = new Oracle();
        }
        stair.wipe();
        oracle.wipe();
        add(new int[] {ROUTINE, 0, 0, 0});
        add(new int[] {SET, 1, 2, 0});
        int left = script;
        for (int i = 0; i < length; i++) {
            add(STEPS[left % STEPS.length]);
            left /= STEPS.length;
        }
        String what = "script " + script + " of " + length + " steps";
        for (int n : STEPS_OF_RUNS) {
            compare(what, n);
        }
    }

    private static void add(int[] step) {
        stair.step(step[0], step[1], step[2], step[3]);
        oracle.step(step[0], step[1], step[2], step[3]);
    }

    private static void compare(String what, int n) {
        due(what + ": run(0, " + n + ")", stair.run(0, n), oracle.run(0, n));
        due(what + ": end", stair.end(), oracle.end());
        due(what + ": result", stair.result(), oracle.result());
        due(what + ": kind", stair.kind(), oracle.kind());
        due(what + ": cause(0)", stair.cause(0), oracle.cause(0));
        due(what + ": depth", stair.depth(), oracle.depth());
        for (int status = 4; status < 8; status++) {
            due(what + ": status(" + status + ")", stair.status(status), oracle.status(status));
        }
        due(what + ": finished(0)", stair.finished(0), oracle.finished(0));
        due(what + ": the last output", stair.out(oracle.status(4) - 1), oracle.out(oracle.status(4) - 1));
        due(what + ": NUMBER 1", stair.number(1), oracle.number(1));
    }
}
