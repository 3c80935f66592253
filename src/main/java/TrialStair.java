import java.util.Arrays;

/**
 * A stair of trials: scripts of steps are worked by routines that open trials inside trials.
 *
 * <p>A run is worked without recursion: the blocks and routines that are open stand as a chain of
 * frames, so that the document's 200 open ones need no deep calls.
 */
public final class TrialStair {
    private static final int TELL = 0;
    private static final int SET = 1;
    private static final int ADD = 2;
    private static final int LESS = 3;
    private static final int TIMES = 4;
    private static final int DIVIDE = 5;
    private static final int REST = 6;
    private static final int MAKE = 7;
    private static final int LOOK = 8;
    private static final int LENGTH = 10;
    private static final int GRID = 11;
    private static final int GRID_LOOK = 12;
    private static final int GRID_PUT = 13;
    private static final int THING = 14;
    private static final int GIVE = 15;
    private static final int MARK = 16;
    private static final int MARK_PUT = 17;
    private static final int CAST = 18;
    private static final int USE = 19;
    private static final int RING = 20;
    private static final int WEIGH = 21;
    private static final int THROW = 22;
    private static final int THROW_NOTHING = 23;
    private static final int INSTEAD = 24;
    private static final int OPEN = 25;
    private static final int TAKER = 26;
    private static final int FINISH = 27;
    private static final int CLOSE = 28;
    private static final int LOOP = 29;
    private static final int IF = 30;
    private static final int END = 31;
    private static final int BREAK = 32;
    private static final int AGAIN = 33;
    private static final int RETURN = 34;
    private static final int ROUTINE = 35;

    private static final int WELL = -1;
    private static final int ALARM = 0;
    private static final int FIRE = 1;
    private static final int FLASH = 2;
    private static final int DIVISION = 4;
    private static final int INDEX = 5;
    private static final int NONE = 6;
    private static final int SIZE = 7;
    private static final int MISCAST = 8;
    private static final int STORE = 9;
    private static final int TAKES_ALL = 1 << 10;

    private static final int HAMMER = 0;
    private static final int SAW = 1;
    private static final int CHISEL = 2;

    private static final int BYTES = 0;
    private static final int CHARS = 1;
    private static final int SHORTS = 2;
    private static final int INTS = 3;
    private static final int FLOATS = 5;
    private static final int DOUBLES = 6;
    private static final int THINGS = 7;

    /** What comes of a part; WORKING as long as nothing has come of it yet. */
    private static final int WORKING = 0;
    private static final int PLAINLY = 1;
    private static final int FAILED = 2;
    private static final int BROKE = 3;
    private static final int WENT_AGAIN = 4;
    private static final int RETURNED = 5;

    private static final int BODY = 0;
    private static final int TAKING = 1;
    private static final int FINISHING = 2;

    private static final int NEVER_RUN = -1;
    private static final int ENDED_PLAINLY = 0;
    private static final int ENDED_BY_RETURN = 1;
    private static final int ENDED_BY_FAILURE = 2;
    private static final int ENDED_SPENT = 3;
    private static final int ENDED_TOO_DEEP = 4;

    private static final int EIGHT = 8;
    private static final int MOST_PLACES = 63;
    private static final int GRID_SIDE = 7;
    private static final int MOST_STEPS = 2000;
    private static final int MOST_STEPS_OF_A_RUN = 1000;
    private static final int MOST_STEPS_OF_ALL_RUNS = 8000;
    private static final int MOST_OPEN = 200;
    private static final int MOST_OUTPUTS = 500;

    /** Each step of a run brings a handful of turns at most, so no run comes near this. */
    private static final int MOST_TURNS = 1000000;

    private final Script script;
    private final House house;
    private final Report report;
    private final Worker worker;
    private int stepsOfAllRuns;
    private int runs;

    public TrialStair() {
        script = new Script();
        house = new House();
        report = new Report();
        worker = new Worker(script, house, report);
    }

    public int step(int op, int a, int b, int c) {
        if (op < TELL || op > ROUTINE) {
            return -1;
        }
        if (script.length >= MOST_STEPS) {
            return -2;
        }
        script.add(op, a, b, c);
        return script.length;
    }

    public int wipe() {
        int had = script.length;
        script.clear();
        return had;
    }

    public int run(int r, int n) {
        if (!script.hasRoutine(r)) {
            return -1;
        }
        if (n < 1 || n > MOST_STEPS_OF_A_RUN) {
            return -2;
        }
        if (stepsOfAllRuns > MOST_STEPS_OF_ALL_RUNS - n) {
            return -3;
        }
        int took = worker.workRun(r, n);
        stepsOfAllRuns += took;
        runs++;
        return took;
    }

    public int end() {
        return report.ending;
    }

    public long result() {
        return report.returned;
    }

    public int kind() {
        return report.failure == null ? -1 : report.failure.kind;
    }

    public int cause(int i) {
        if (i < 0 || report.failure == null) {
            return -1;
        }
        Failure failure = report.failure.cause;
        for (int k = 0; k < i && failure != null; k++) {
            failure = failure.cause;
        }
        return failure == null ? -1 : failure.kind;
    }

    public long out(int i) {
        return i >= 0 && i < report.told && i < MOST_OUTPUTS ? report.outputs[i] : 0;
    }

    public int finished(int i) {
        return i >= 0 && i < report.finishes && i < MOST_STEPS_OF_A_RUN ? report.finishedTrials[i] : -1;
    }

    public int depth() {
        return report.deepest;
    }

    public int status(int what) {
        switch (what) {
            case 0:
                return script.length;
            case 1:
                return script.routines;
            case 2:
                return stepsOfAllRuns;
            case 3:
                return runs;
            case 4:
                return report.told;
            case 5:
                return report.finishes;
            case 6:
                return report.countCauses();
            case 7:
                return report.taken;
            default:
                return -1;
        }
    }

    public long number(int i) {
        return isOfEight(i) ? house.numberOf(i) : 0;
    }

    public int hand(int i) {
        if (!isOfEight(i)) {
            return -2;
        }
        return kindOf(house.thingOf(i));
    }

    public long mark(int i) {
        Thing thing = isOfEight(i) ? house.thingOf(i) : null;
        return thing == null ? 0 : thing.mark;
    }

    public int size(int sort, int shelf) {
        if (!isOfEight(sort) || !isOfEight(shelf)) {
            return -2;
        }
        Row row = house.rowOf(sort, shelf);
        return row == null ? -1 : row.places;
    }

    public long value(int sort, int shelf, int i) {
        Row row = isOfEight(sort) && isOfEight(shelf) ? house.rowOf(sort, shelf) : null;
        if (row == null || !row.has(i)) {
            return 0;
        }
        return sort == THINGS ? kindOf(row.thingAt(i)) : row.numberAt(i);
    }

    public int grid(int i, int j) {
        return house.grid.has(i, j) ? house.grid.cellAt(i, j) : 0;
    }

    private static boolean isOfEight(int i) {
        return i >= 0 && i < EIGHT;
    }

    private static int kindOf(Thing thing) {
        return thing == null ? -1 : thing.kind;
    }

    /** A step of the script and, of one that begins a BLOCK, where the BLOCK's parts are. */
    private static final class Step {
        final int place;
        final int op;
        final int a;
        final int b;
        final int c;
        /** The BLOCK that is the INNERMOST again when this one ends. */
        Step around;
        int taker = -1;
        int finish = -1;
        /** The place of its CLOSE or END; -1 for a BLOCK that ends with its routine. */
        int close = -1;

        Step(int place, int op, int a, int b, int c) {
            this.place = place;
            this.op = op;
            this.a = a;
            this.b = b;
            this.c = c;
        }
    }

    /**
     * The steps. Which BLOCK a TAKER, FINISH, CLOSE or END belongs to hangs on the steps ahead of it
     * alone, so it is settled as each step comes.
     */
    private static final class Script {
        private final Step[] steps = new Step[MOST_STEPS];
        private final int[] marks = new int[MOST_STEPS];
        private Step innermost;
        int length;
        int routines;

        void clear() {
            length = 0;
            routines = 0;
            innermost = null;
        }

        void add(int op, int a, int b, int c) {
            if (length < 0 || length >= MOST_STEPS) {
                return;
            }
            Step step = new Step(length, op, a, b, c);
            steps[length] = step;
            length++;
            if (op == OPEN || op == LOOP || op == IF) {
                step.around = innermost;
                innermost = step;
            } else if (op >= TAKER && op <= END) {
                fit(step);
            } else if (op == ROUTINE && (c & 1) == 0) {
                beginRoutine(step.place);
            }
        }

        private void beginRoutine(int place) {
            if (routines < 0 || routines >= MOST_STEPS) {
                return;
            }
            marks[routines] = place;
            routines++;
            innermost = null;
        }

        private void fit(Step step) {
            Step block = innermost;
            if (block == null || (block.op == OPEN) == (step.op == END)) {
                return;
            }
            if (step.op == TAKER) {
                if (block.taker < 0 && block.finish < 0) {
                    block.taker = step.place;
                }
            } else if (step.op == FINISH) {
                if (block.finish < 0) {
                    block.finish = step.place;
                }
            } else {
                block.close = step.place;
                innermost = block.around;
            }
        }

        boolean hasRoutine(int routine) {
            return routine >= 0 && routine < routines && routine < MOST_STEPS;
        }

        int firstPlaceOf(int routine) {
            return hasRoutine(routine) ? marks[routine] + 1 : length;
        }

        int placeBehind(int routine) {
            return hasRoutine(routine + 1) ? marks[routine + 1] : length;
        }

        Step stepAt(int place) {
            return place >= 0 && place < length && place < MOST_STEPS ? steps[place] : null;
        }
    }

    private static final class Failure {
        final int kind;
        final Failure cause;

        Failure(int kind, Failure cause) {
            this.kind = kind;
            this.cause = cause;
        }
    }

    private static final class Thing {
        final int kind;
        long mark;

        Thing(int kind, long mark) {
            this.kind = kind;
            this.mark = mark;
        }

        boolean rings() {
            return kind == SAW || kind == CHISEL;
        }

        boolean isCastAs(int wanted) {
            switch (wanted) {
                case HAMMER:
                    return kind == HAMMER;
                case CHISEL:
                    return kind == CHISEL;
                default:
                    // A SAW or one that rings: SAWS and CHISELS are both.
                    return rings();
            }
        }

        long use(long x) {
            switch (kind) {
                case HAMMER:
                    return mark + x;
                case SAW:
                    return mark - x;
                default:
                    return 2 * (mark - x);
            }
        }

        long ring(long x) {
            long rung = mark ^ x;
            return kind == CHISEL ? rung + 1 : rung;
        }
    }

    /**
     * A ROW of one sort. Numbers of each sort are held as the longs that LOOK reads of them, as
     * nothing else of them is ever told; a ROW is made once and emptied for each MAKE after.
     */
    private static final class Row {
        private final int sort;
        private final long[] numbers;
        private final Thing[] things;
        int places;
        boolean sawsAlone;

        Row(int sort) {
            this.sort = sort;
            this.numbers = new long[sort == THINGS ? 0 : MOST_PLACES];
            this.things = new Thing[sort == THINGS ? MOST_PLACES : 0];
        }

        void empty(int newPlaces, boolean forSawsAlone) {
            places = newPlaces;
            sawsAlone = forSawsAlone;
            Arrays.fill(numbers, 0);
            for (int i = 0; i < things.length; i++) {
                things[i] = null;
            }
        }

        boolean has(int place) {
            return place >= 0 && place < places;
        }

        long numberAt(int place) {
            return place >= 0 && place < numbers.length ? numbers[place] : 0;
        }

        Thing thingAt(int place) {
            return place >= 0 && place < things.length ? things[place] : null;
        }

        void putNumber(int place, long number) {
            if (place >= 0 && place < numbers.length) {
                numbers[place] = narrowed(number);
            }
        }

        void putThing(int place, Thing thing) {
            if (place >= 0 && place < things.length) {
                things[place] = thing;
            }
        }

        private long narrowed(long number) {
            switch (sort) {
                case BYTES:
                    return (byte) number;
                case CHARS:
                    return (char) number;
                case SHORTS:
                    return (short) number;
                case INTS:
                    return (int) number;
                case FLOATS:
                    return (long) (float) number;
                case DOUBLES:
                    return (long) (double) number;
                default:
                    return number;
            }
        }
    }

    private static final class Grid {
        private final int[] cells = new int[GRID_SIDE * GRID_SIDE];
        boolean made;
        private int rows;
        private int places;

        void make(int newRows, int newPlaces) {
            made = true;
            rows = newRows;
            places = newPlaces;
            Arrays.fill(cells, 0);
        }

        boolean has(int row, int place) {
            return row >= 0 && row < rows && place >= 0 && place < places;
        }

        int cellAt(int row, int place) {
            int at = row * GRID_SIDE + place;
            return at >= 0 && at < cells.length ? cells[at] : 0;
        }

        void putCell(int row, int place, int number) {
            int at = row * GRID_SIDE + place;
            if (at >= 0 && at < cells.length) {
                cells[at] = number;
            }
        }
    }

    /** The HOUSE, with the steps that touch nothing else. */
    private static final class House {
        private final long[] numbers = new long[EIGHT];
        private final Thing[] hands = new Thing[EIGHT];
        private final Row[] rows = new Row[EIGHT * EIGHT];
        final Grid grid = new Grid();

        long numberOf(int told) {
            return numbers[told & 7];
        }

        void setNumber(int told, long number) {
            numbers[told & 7] = number;
        }

        Thing thingOf(int told) {
            return hands[told & 7];
        }

        Row rowOf(int sort, int shelf) {
            return rows[(sort & 7) << 3 | shelf & 7];
        }

        private int intOf(int told) {
            return (int) numberOf(told);
        }

        /** Works one of the steps SET to WEIGH: the kind of its failure, or WELL. */
        int workStep(Step step) {
            if (step.op <= REST) {
                return reckon(step);
            }
            if (step.op == MAKE) {
                return makeRow(step);
            }
            if (step.op <= LENGTH) {
                return workRow(step);
            }
            if (step.op <= GRID_PUT) {
                return workGrid(step);
            }
            if (step.op <= CAST) {
                return workHand(step);
            }
            return workTool(step);
        }

        private int reckon(Step step) {
            long x = numberOf(step.b);
            long y = numberOf(step.c);
            if (y == 0 && step.op >= DIVIDE) {
                return DIVISION;
            }
            setNumber(step.a, reckoned(step, x, y));
            return WELL;
        }

        private static long reckoned(Step step, long x, long y) {
            switch (step.op) {
                case SET:
                    return step.b;
                case ADD:
                    return x + y;
                case LESS:
                    return x - y;
                case TIMES:
                    return x * y;
                case DIVIDE:
                    return y == 0 ? 0 : x / y;
                default:
                    return y == 0 ? 0 : x % y;
            }
        }

        /** Works one of the steps LOOK, PUT, LENGTH. */
        private int workRow(Step step) {
            int sort = step.a >> 3 & 7;
            Row row = rowOf(sort, step.a);
            if (row == null) {
                return NONE;
            }
            if (step.op == LENGTH) {
                setNumber(step.b, row.places);
                return WELL;
            }
            int place = intOf(step.b);
            if (!row.has(place)) {
                return INDEX;
            }
            if (sort == THINGS) {
                return step.op == LOOK ? takeThing(row, place, step.c) : putThing(row, place, step.c);
            }
            if (step.op == LOOK) {
                setNumber(step.c, row.numberAt(place));
            } else {
                row.putNumber(place, numberOf(step.c));
            }
            return WELL;
        }

        private int makeRow(Step step) {
            int sort = step.a >> 3 & 7;
            int places = intOf(step.b);
            if (places < 0) {
                return SIZE;
            }
            Row row = rowOf(sort, step.a);
            if (row == null) {
                row = new Row(sort);
                rows[sort << 3 | step.a & 7] = row;
            }
            row.empty(places & MOST_PLACES, sort == THINGS && (step.c & 1) == 1);
            return WELL;
        }

        private int takeThing(Row row, int place, int hand) {
            hands[hand & 7] = row.thingAt(place);
            return WELL;
        }

        private int putThing(Row row, int place, int hand) {
            Thing thing = thingOf(hand);
            if (row.sawsAlone && thing != null && thing.kind == HAMMER) {
                return STORE;
            }
            row.putThing(place, thing);
            return WELL;
        }

        private int workGrid(Step step) {
            int row = intOf(step.a);
            int place = intOf(step.b);
            if (step.op == GRID) {
                if (row < 0 || place < 0) {
                    return SIZE;
                }
                grid.make(row & 7, place & 7);
                return WELL;
            }
            if (!grid.made) {
                return NONE;
            }
            if (!grid.has(row, place)) {
                return INDEX;
            }
            if (step.op == GRID_LOOK) {
                setNumber(step.c, grid.cellAt(row, place));
            } else {
                grid.putCell(row, place, intOf(step.c));
            }
            return WELL;
        }

        /** Works one of the steps THING to CAST. */
        private int workHand(Step step) {
            Thing thing = thingOf(step.a);
            switch (step.op) {
                case THING:
                    hands[step.a & 7] = newThing(step.b & 3, numberOf(step.c));
                    return WELL;
                case GIVE:
                    hands[step.b & 7] = thing;
                    return WELL;
                case CAST:
                    if (thing != null && !thing.isCastAs(step.b & 3)) {
                        return MISCAST;
                    }
                    hands[step.c & 7] = thing;
                    return WELL;
                default:
                    return workMark(step, thing);
            }
        }

        private static Thing newThing(int kind, long mark) {
            return kind > CHISEL ? null : new Thing(kind, mark);
        }

        private int workMark(Step step, Thing thing) {
            if (thing == null) {
                return NONE;
            }
            if (step.op == MARK) {
                setNumber(step.b, thing.mark);
            } else {
                thing.mark = numberOf(step.b);
            }
            return WELL;
        }

        /** Works one of the steps USE, RING, WEIGH. */
        private int workTool(Step step) {
            Thing thing = thingOf(step.a);
            if (thing == null) {
                return NONE;
            }
            long x = numberOf(step.b);
            if (step.op == USE) {
                setNumber(step.c, thing.use(x));
            } else if (step.op == WEIGH) {
                setNumber(step.c, 3 * x + thing.mark);
            } else if (thing.rings()) {
                setNumber(step.c, thing.ring(x));
            } else {
                return MISCAST;
            }
            return WELL;
        }
    }

    /** What is told of the latest run. */
    private static final class Report {
        final long[] outputs = new long[MOST_OUTPUTS];
        final int[] finishedTrials = new int[MOST_STEPS_OF_A_RUN];
        int ending = NEVER_RUN;
        long returned;
        Failure failure;
        int told;
        int finishes;
        int deepest;
        int taken;

        void begin() {
            ending = ENDED_PLAINLY;
            returned = 0;
            failure = null;
            told = 0;
            finishes = 0;
            deepest = 0;
            taken = 0;
        }

        void tell(long number) {
            if (told >= 0 && told < outputs.length) {
                outputs[told] = number;
                told++;
            }
        }

        void noteFinish(int place) {
            if (finishes >= 0 && finishes < finishedTrials.length) {
                finishedTrials[finishes] = place;
                finishes++;
            }
        }

        int countCauses() {
            int count = 0;
            Failure last = failure;
            while (last != null && last.cause != null) {
                count++;
                last = last.cause;
            }
            return count;
        }
    }

    /** A BLOCK or routine that is OPEN. */
    private static final class Frame {
        /** The OPEN, LOOP, IF or CALL whose frame it is. */
        final Step step;
        final Frame around;
        /** The place behind its routine's last step. */
        final int routineEnd;
        /** The place behind the last step of the part at work. */
        int until;
        int stage = BODY;
        Failure taken;
        int heldCome;
        long heldValue;
        Failure heldFailure;

        Frame(Step step, Frame around, int routineEnd) {
            this.step = step;
            this.around = around;
            this.routineEnd = routineEnd;
            this.until = routineEnd;
        }

        int blockEnd() {
            return step.close >= 0 ? step.close : routineEnd;
        }

        int placeBehind() {
            return step.close >= 0 ? step.close + 1 : routineEnd;
        }

        int takerEnd() {
            return step.finish >= 0 ? step.finish : blockEnd();
        }

        /** Also right for a LOOP or IF, as these never have a TAKER or FINISH. */
        int bodyEnd() {
            return step.taker >= 0 ? step.taker : takerEnd();
        }
    }

    /** Works a run. */
    private static final class Worker {
        private final Script script;
        private final House house;
        private final Report report;
        /** Stands where a CALL would, for the routine that the run begins with. */
        private final Step beginning = new Step(-1, ROUTINE, 0, 0, 1);
        private Frame top;
        private int open;
        private int place;
        private int stepsLeft;
        private int come;
        private long value;
        private Failure failure;

        Worker(Script script, House house, Report report) {
            this.script = script;
            this.house = house;
            this.report = report;
        }

        /** Works routine r with at most n steps: how many it took. */
        int workRun(int r, int n) {
            report.begin();
            stepsLeft = n;
            open = 0;
            top = null;
            enterRoutine(r, beginning);
            for (int turn = 0; turn < MOST_TURNS && top != null; turn++) {
                Frame frame = top;
                Step next = place < frame.until ? script.stepAt(place) : null;
                if (come != WORKING) {
                    settle(frame);
                } else if (next == null) {
                    come = PLAINLY;
                } else if (takeStep()) {
                    workStep(frame, next);
                }
            }
            return n - stepsLeft;
        }

        /** Takes one of the run's steps; where there is none left the run is SPENT. */
        private boolean takeStep() {
            if (stepsLeft <= 0) {
                stop(ENDED_SPENT);
                return false;
            }
            stepsLeft--;
            return true;
        }

        private void stop(int ending) {
            report.ending = ending;
            top = null;
        }

        private void workStep(Frame frame, Step step) {
            switch (step.op) {
                case TELL:
                    report.tell(house.numberOf(step.a));
                    place++;
                    break;
                case THROW:
                    fail(step.a & 3, null);
                    break;
                case THROW_NOTHING:
                    fail(NONE, null);
                    break;
                case INSTEAD:
                    fail(step.a & 3, failureAtWork());
                    break;
                case OPEN:
                case LOOP:
                case IF:
                    beginBlock(frame, step);
                    break;
                case BREAK:
                    come = BROKE;
                    break;
                case AGAIN:
                    come = WENT_AGAIN;
                    break;
                case RETURN:
                    come = RETURNED;
                    value = house.numberOf(step.a);
                    break;
                case ROUTINE:
                    callRoutine(step);
                    break;
                case TAKER:
                case FINISH:
                case CLOSE:
                case END:
                    // One that belongs to a BLOCK bounds its parts and so is never met here.
                    place++;
                    break;
                default:
                    goBehind(house.workStep(step));
                    break;
            }
        }

        private void goBehind(int kind) {
            if (kind == WELL) {
                place++;
            } else {
                fail(kind, null);
            }
        }

        private void fail(int kind, Failure cause) {
            failure = new Failure(kind, cause);
            come = FAILED;
        }

        /** The failure of the innermost trial whose TAKER is at work, or null. */
        private Failure failureAtWork() {
            for (Frame frame = top; frame != null; frame = frame.around) {
                if (frame.stage == TAKING) {
                    return frame.taken;
                }
            }
            return null;
        }

        private void callRoutine(Step call) {
            if (script.hasRoutine(call.a)) {
                enterRoutine(call.a, call);
            } else {
                fail(NONE, null);
            }
        }

        private void enterRoutine(int routine, Step call) {
            enter(new Frame(call, top, script.placeBehind(routine)), script.firstPlaceOf(routine));
        }

        private void beginBlock(Frame around, Step step) {
            Frame frame = new Frame(step, around, around.routineEnd);
            frame.until = frame.bodyEnd();
            if (!enter(frame, step.place + 1)) {
                return;
            }
            if (step.op == LOOP) {
                look(frame);
            } else if (step.op == IF && house.numberOf(step.a) >= house.numberOf(step.b)) {
                come = PLAINLY;
            }
        }

        private boolean enter(Frame frame, int first) {
            if (open >= MOST_OPEN) {
                stop(ENDED_TOO_DEEP);
                return false;
            }
            open++;
            report.deepest = Math.max(report.deepest, open);
            top = frame;
            place = first;
            come = WORKING;
            return true;
        }

        /** A LOOP looks; the step that this takes is taken already. */
        private void look(Frame frame) {
            Step loop = frame.step;
            long turns = house.numberOf(loop.a);
            if (turns > 0) {
                house.setNumber(loop.a, turns - 1);
                place = loop.place + 1;
                come = WORKING;
            } else {
                come = PLAINLY;
                leaveBlock(frame);
            }
        }

        /** What came of the part at work comes to the frame. */
        private void settle(Frame frame) {
            switch (frame.step.op) {
                case OPEN:
                    settleTrial(frame);
                    break;
                case LOOP:
                    settleLoop(frame);
                    break;
                case IF:
                    leaveBlock(frame);
                    break;
                default:
                    settleRoutine(frame);
                    break;
            }
        }

        /** The BLOCK is over, and what came of it goes on around it. */
        private void leaveBlock(Frame frame) {
            top = frame.around;
            open--;
            if (come == PLAINLY) {
                place = frame.placeBehind();
                come = WORKING;
            }
        }

        private void settleLoop(Frame frame) {
            if (come == PLAINLY || come == WENT_AGAIN) {
                if (takeStep()) {
                    look(frame);
                }
                return;
            }
            if (come == BROKE) {
                come = PLAINLY;
            }
            leaveBlock(frame);
        }

        private void settleTrial(Frame frame) {
            if (frame.stage == FINISHING) {
                if (come != FAILED) {
                    come = frame.heldCome;
                    value = frame.heldValue;
                    failure = frame.heldFailure;
                }
                leaveBlock(frame);
            } else if (frame.stage == BODY && come == FAILED && takes(frame.step, failure)) {
                beginTaker(frame);
            } else if (frame.step.finish >= 0) {
                beginFinish(frame);
            } else {
                leaveBlock(frame);
            }
        }

        private static boolean takes(Step trial, Failure failure) {
            if (trial.taker < 0 || failure == null) {
                return false;
            }
            int kind = failure.kind;
            int bits = TAKES_ALL | 1 << kind;
            if (kind == FIRE || kind == FLASH) {
                bits |= 1 << ALARM;
            }
            if (kind == FLASH) {
                bits |= 1 << FIRE;
            }
            return (trial.a & bits) != 0;
        }

        private void beginTaker(Frame frame) {
            report.taken++;
            frame.taken = failure;
            beginPart(frame, TAKING, frame.step.taker + 1, frame.takerEnd());
        }

        private void beginFinish(Frame frame) {
            report.noteFinish(frame.step.place);
            frame.heldCome = come;
            frame.heldValue = value;
            frame.heldFailure = failure;
            beginPart(frame, FINISHING, frame.step.finish + 1, frame.blockEnd());
        }

        private void beginPart(Frame frame, int stage, int first, int until) {
            frame.stage = stage;
            frame.until = until;
            place = first;
            come = WORKING;
        }

        private void settleRoutine(Frame frame) {
            top = frame.around;
            open--;
            if (top == null) {
                reportEnd();
            } else if (come != FAILED) {
                house.setNumber(frame.step.b, come == RETURNED ? value : 0);
                place = frame.step.place + 1;
                come = WORKING;
            }
        }

        private void reportEnd() {
            if (come == FAILED) {
                report.ending = ENDED_BY_FAILURE;
                report.failure = failure;
            } else if (come != PLAINLY) {
                report.ending = ENDED_BY_RETURN;
                report.returned = come == RETURNED ? value : 0;
            }
        }
    }
}
