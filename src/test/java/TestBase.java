/** What the tests share: names for the ops and kinds, and the count of wrong answers. */
abstract class TestBase {
    static final int TELL = 0, SET = 1, ADD = 2, LESS = 3, TIMES = 4, DIVIDE = 5, REST = 6;
    static final int MAKE = 7, LOOK = 8, PUT = 9, LENGTH = 10;
    static final int GRID = 11, GRID_LOOK = 12, GRID_PUT = 13;
    static final int THING = 14, GIVE = 15, MARK = 16, MARK_PUT = 17, CAST = 18;
    static final int USE = 19, RING = 20, WEIGH = 21;
    static final int THROW = 22, THROW_NOTHING = 23, INSTEAD = 24;
    static final int OPEN = 25, TAKER = 26, FINISH = 27, CLOSE = 28;
    static final int LOOP = 29, IF = 30, END = 31, BREAK = 32, AGAIN = 33, RETURN = 34, ROUTINE = 35;

    static final int ALARM = 0, FIRE = 1, FLASH = 2, THEFT = 3;
    static final int DIVISION = 4, INDEX = 5, NONE = 6, SIZE = 7, MISCAST = 8, STORE = 9;

    /** What an OPEN's a is for a trial that takes every kind. */
    static final int ALL = 1 << 10;

    static final int HAMMER = 0, SAW = 1, CHISEL = 2, NOTHING = 3;
    static final int BYTES = 0, CHARS = 1, SHORTS = 2, INTS = 3, LONGS = 4, FLOATS = 5, DOUBLES = 6, THINGS = 7;

    static final int PLAINLY = 0, BY_RETURN = 1, BY_FAILURE = 2, SPENT = 3, TOO_DEEP = 4;

    private static int wrong;
    private static int asked;
    private static String words;

    /** What a wrong answer breaks: words of the document. */
    static void restOn(String wordsOfTheDocument) {
        words = wordsOfTheDocument;
    }

    static void due(String what, long got, long want) {
        asked++;
        if (got != want) {
            wrong++;
            System.out.println(what + " answered " + got + ", due is " + want + (words == null ? "" : " (" + words + ")"));
        }
    }

    static void close() {
        System.out.println(asked + " answers asked, " + wrong + " wrong");
        if (wrong != 0 || asked == 0) {
            System.exit(1);
        }
    }

    /** Adds steps, four numbers each. */
    static void add(Stair stair, int... numbers) {
        for (int i = 0; i + 3 < numbers.length; i += 4) {
            stair.step(numbers[i], numbers[i + 1], numbers[i + 2], numbers[i + 3]);
        }
    }

    /** A new script on the stair: one routine with these steps. */
    static void rewrite(Stair stair, int... numbers) {
        stair.wipe();
        add(stair, ROUTINE, 0, 0, 0);
        add(stair, numbers);
    }

    /** A new stair on which one routine with these steps has been run. */
    static Stair ran(int... numbers) {
        Stair stair = new Stair();
        again(stair, numbers);
        return stair;
    }

    /** Runs one routine with these steps, the HOUSE being what it is. */
    static int again(Stair stair, int... numbers) {
        rewrite(stair, numbers);
        return stair.run(0, 900);
    }

    /** The outputs of the latest run are these, and there are no others. */
    static void dueOutputs(String what, Stair stair, long... outputs) {
        due(what + ": outputs", stair.status(4), outputs.length);
        for (int i = 0; i < outputs.length; i++) {
            due(what + ": out(" + i + ")", stair.out(i), outputs[i]);
        }
        due(what + ": output behind the last", stair.out(outputs.length), 0);
    }

    /** The finishing parts begun in the latest run are those of these trials. */
    static void dueFinished(String what, Stair stair, int... places) {
        due(what + ": finishing parts", stair.status(5), places.length);
        for (int i = 0; i < places.length; i++) {
            due(what + ": finished(" + i + ")", stair.finished(i), places[i]);
        }
        due(what + ": finishing part behind the last", stair.finished(places.length), -1);
    }

    /** The latest run failed with a kind, and with these CAUSES. */
    static void dueFailure(String what, Stair stair, int kind, int... causes) {
        due(what + ": end", stair.end(), BY_FAILURE);
        due(what + ": result", stair.result(), 0);
        due(what + ": kind", stair.kind(), kind);
        due(what + ": causes", stair.status(6), causes.length);
        for (int i = 0; i < causes.length; i++) {
            due(what + ": cause(" + i + ")", stair.cause(i), causes[i]);
        }
        due(what + ": cause behind the last", stair.cause(causes.length), -1);
        due(what + ": cause(-1)", stair.cause(-1), -1);
    }

    static void dueEnd(String what, Stair stair, int end, long result) {
        due(what + ": end", stair.end(), end);
        due(what + ": result", stair.result(), result);
        due(what + ": kind", stair.kind(), -1);
        due(what + ": cause(0)", stair.cause(0), -1);
        due(what + ": causes", stair.status(6), 0);
    }
}
