import java.util.ArrayList;
import java.util.List;
import java.util.Random;

/** Random scripts, the same each time, worked by TrialStair and by the Oracle. */
final class OracleTest extends TestBase {
    private static final int CALLS_OF_COMPARE = 12;
    private static final int QUESTIONS = 20;
    private static final int CALLS_KEPT = 120;
    private static final int STAIRS = 20000;
    private static final int[] EDGES = {
        0, 1, -1, 2, 3, 7, 8, 62, 63, 64, 65, 127, 128, 255, 256, 32767, 32768, 65535, 65536, 16777217, 16777219,
        Integer.MAX_VALUE, Integer.MIN_VALUE, -128, -129, -32769
    };

    /** MAKE and GRID are rare, so that what PUT has put is there for a while. */
    private static final int[] HOUSE_OPS = {
        ADD, LESS, TIMES, TIMES, DIVIDE, REST, MAKE, LOOK, LOOK, LOOK, PUT, PUT, PUT, PUT, PUT, PUT, LENGTH,
        GRID, GRID_LOOK, GRID_LOOK, GRID_PUT, GRID_PUT, GRID_PUT, THING, GIVE, MARK, MARK_PUT, CAST, CAST,
        USE, USE, RING, RING, WEIGH
    };

    private final Random random;
    private final Stair stair = new Stair();
    private final Oracle oracle = new Oracle();
    private final String name;

    private OracleTest(int seed) {
        this.random = new Random(seed);
        this.name = "stair " + seed;
    }

    public static void main(String[] args) {
        for (int seed = 0; seed < STAIRS; seed++) {
            OracleTest test = new OracleTest(seed);
            if (seed % 8 != 0) {
                test.furnish();
            }
            int scripts = 1 + test.random.nextInt(4);
            for (int i = 0; i < scripts && test.stair.callsLeft() > CALLS_KEPT; i++) {
                test.tryScript();
            }
            test.compare(test.stair.callsLeft() - CALLS_OF_COMPARE);
        }
        close();
    }

    /** Most HOUSES have something in them, so that fewer steps fail. */
    private void furnish() {
        addStep(ROUTINE, 0, 0, 0);
        for (int i = 0; i < 8; i++) {
            addStep(SET, i, random.nextInt(6), 0);
            addStep(THING, i, random.nextInt(4), random.nextInt(8));
        }
        for (int i = 0; i < 16; i++) {
            addStep(MAKE, i / 2 << 3 | i % 2, random.nextInt(8), random.nextInt(2));
        }
        addStep(GRID, random.nextInt(8), random.nextInt(8), 0);
        due(name + ": furnished", stair.run(0, 100), oracle.run(0, 100));
    }

    private void tryScript() {
        if (random.nextInt(4) != 0) {
            due(name + ": wipe", stair.wipe(), oracle.wipe());
        }
        int routines = 1 + random.nextInt(4);
        if (random.nextInt(10) == 0) {
            addNoise(1 + random.nextInt(3), routines);
        }
        for (int r = 0; r < routines; r++) {
            addStep(ROUTINE, random.nextInt(), random.nextInt(), random.nextInt() & ~1);
            addPart(4 + random.nextInt(20), 0, routines);
        }
        int tries = 1 + random.nextInt(3);
        for (int i = 0; i < tries && stair.callsLeft() > 2 * CALLS_OF_COMPARE + QUESTIONS; i++) {
            int r = random.nextInt(routines + 1) - random.nextInt(2) * random.nextInt(2);
            int n = random.nextInt(8) == 0 ? random.nextInt(1200) - 50 : 1 + random.nextInt(random.nextInt(6) == 0 ? 1000 : 120);
            due(name + ": run(" + r + ", " + n + ")", stair.run(r, n), oracle.run(r, n));
            compare(QUESTIONS);
        }
    }

    /** A script ends early where too few calls would be left to ask what came of it. */
    private void addStep(int op, int a, int b, int c) {
        if (stair.callsLeft() <= CALLS_KEPT) {
            return;
        }
        due(name + ": step", stair.step(op, a, b, c), oracle.step(op, a, b, c));
    }

    private void addNoise(int steps, int routines) {
        for (int i = 0; i < steps; i++) {
            addStep(random.nextInt(36), word(routines), word(routines), word(routines));
        }
    }

    private int word(int routines) {
        switch (random.nextInt(6)) {
            case 0:
                return EDGES[random.nextInt(EDGES.length)];
            case 1:
                return random.nextInt();
            case 2:
                return random.nextInt(routines + 1);
            default:
                return random.nextInt(8);
        }
    }

    private void addPart(int steps, int level, int routines) {
        for (int i = 0; i < steps; i++) {
            int pick = random.nextInt(30);
            if (pick < 3 && level < 6) {
                addTrial(level, routines);
            } else if (pick < 5 && level < 6) {
                addStep(SET, 3, 1 + random.nextInt(4), 0);
                addStep(LOOP, random.nextInt(8) == 0 ? word(routines) : 3, 0, 0);
                addPart(random.nextInt(5), level + 1, routines);
                addEnd(END);
            } else if (pick < 7 && level < 6) {
                addStep(IF, word(routines), word(routines), word(routines));
                addPart(random.nextInt(4), level + 1, routines);
                addEnd(END);
            } else if (pick < 8) {
                int[] ways = {BREAK, AGAIN, RETURN, THROW, INSTEAD, THROW_NOTHING};
                addStep(ways[random.nextInt(ways.length)], word(routines), word(routines), word(routines));
            } else if (pick < 9) {
                addStep(SET, random.nextInt(8), word(routines), 0);
            } else if (pick < 11) {
                addStep(TELL, random.nextInt(8), 0, 0);
            } else if (pick < 12) {
                addStep(ROUTINE, random.nextInt(routines), word(routines), 1);
            } else if (pick < 13) {
                guard(random.nextInt(36), word(routines), word(routines), word(routines));
            } else {
                addHouseStep();
            }
        }
    }

    private void addHouseStep() {
        if (random.nextInt(2) == 0) {
            addStep(SET, random.nextInt(8), random.nextInt(8) == 0 ? word(0) : random.nextInt(5), 0);
        }
        int op = HOUSE_OPS[random.nextInt(HOUSE_OPS.length)];
        guard(op, op >= MAKE && op <= LENGTH ? houseWord() : random.nextInt(8), random.nextInt(8), random.nextInt(8));
    }

    /** Most steps stand in a trial of their own, so that a run does not fail too soon. */
    private void guard(int op, int a, int b, int c) {
        boolean guarded = random.nextInt(8) != 0;
        if (guarded) {
            addStep(OPEN, ALL, 0, 0);
        }
        addStep(op, a, b, c);
        if (guarded) {
            addStep(TAKER, 0, 0, 0);
            addStep(CLOSE, 0, 0, 0);
        }
    }

    /** Few sorts and shelves, so that rows are met again. */
    private int houseWord() {
        int sort = random.nextInt(3) == 0 ? THINGS : random.nextInt(8);
        return sort << 3 | random.nextInt(2) | (random.nextInt(12) == 0 ? random.nextInt(8) : 0);
    }

    private void addEnd(int op) {
        if (random.nextInt(12) != 0) {
            addStep(op, word(4), word(4), word(4));
        }
    }

    private void addTrial(int level, int routines) {
        int[] bits = {ALL, ALL, 1, 2, 4, 8, 16, 32, 64, 128, 256, 512, random.nextInt(2048), random.nextInt(), 0};
        addStep(OPEN, bits[random.nextInt(bits.length)], 0, 0);
        addPart(random.nextInt(4), level + 1, routines);
        if (random.nextInt(3) == 0) {
            addStep(random.nextInt(3) == 0 ? THROW_NOTHING : THROW, random.nextInt(4), 0, 0);
        }
        if (random.nextInt(3) != 0) {
            addStep(TAKER, 0, 0, 0);
            addPart(random.nextInt(4), level + 1, routines);
            if (random.nextInt(3) == 0) {
                addStep(INSTEAD, random.nextInt(4), 0, 0);
            }
        }
        if (random.nextInt(2) == 0) {
            addStep(FINISH, 0, 0, 0);
            addPart(random.nextInt(3), level + 1, routines);
        }
        addEnd(CLOSE);
    }

    /** What is told of the run, and some of the answers that need an argument. */
    private void compare(int questions) {
        due(name + ": end", stair.end(), oracle.end());
        due(name + ": result", stair.result(), oracle.result());
        due(name + ": kind", stair.kind(), oracle.kind());
        due(name + ": depth", stair.depth(), oracle.depth());
        for (int what = 0; what < 8; what++) {
            due(name + ": status " + what, stair.status(what), oracle.status(what));
        }
        for (int i = 0; i < questions; i++) {
            if (random.nextBoolean()) {
                askOfRun();
            } else {
                askOfHouse();
            }
        }
    }

    /** A place of so many, or one just beside them. */
    private int placeOf(int places) {
        return random.nextInt(Math.max(places, 0) + 2) - 1;
    }

    private void askOfRun() {
        int out = placeOf(oracle.status(4));
        int finish = placeOf(oracle.status(5));
        int cause = placeOf(oracle.status(6));
        switch (random.nextInt(3)) {
            case 0:
                due(name + ": out " + out, stair.out(out), oracle.out(out));
                break;
            case 1:
                due(name + ": finished " + finish, stair.finished(finish), oracle.finished(finish));
                break;
            default:
                due(name + ": cause " + cause, stair.cause(cause), oracle.cause(cause));
                break;
        }
    }

    private void askOfHouse() {
        int i = placeOf(8);
        int j = placeOf(random.nextInt(3) == 0 ? 8 : 2);
        int place = placeOf(oracle.size(i, j));
        switch (random.nextInt(6)) {
            case 0:
                due(name + ": number " + i, stair.number(i), oracle.number(i));
                break;
            case 1:
                due(name + ": hand " + i, stair.hand(i), oracle.hand(i));
                break;
            case 2:
                due(name + ": mark " + i, stair.mark(i), oracle.mark(i));
                break;
            case 3:
                due(name + ": size " + i + ", " + j, stair.size(i, j), oracle.size(i, j));
                break;
            case 4:
                due(name + ": value " + i + ", " + j + ", " + place, stair.value(i, j, place), oracle.value(i, j, place));
                break;
            default:
                due(name + ": grid " + i + ", " + place, stair.grid(i, place), oracle.grid(i, place));
                break;
        }
    }
}
