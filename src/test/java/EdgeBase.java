import java.io.IOException;
import java.nio.file.Files;
import java.nio.file.Path;
import java.util.ArrayList;
import java.util.List;
import java.util.Map;

/**
 * What the tests of the boundary cases share: each quotes the sentence of the document that it rests on,
 * and writes its scripts as text.
 *
 * <p>A script is steps with a ';' between them: the op's name, then as many of a, b and c as it needs (the
 * others are 0). An argument is a number, a name of {@link TestBase}, or SORT:SHELF. Three words more:
 * "MARK_OF" and its c for a step 35 that is a mark, "CALL r n" for one that works routine r and puts its
 * value into NUMBER n, and "LONG i x", some steps after which NUMBER i is the long x, and NUMBER 7 is 0.
 */
abstract class EdgeBase extends TestBase {
    private static final List<String> OPS = List.of("TELL", "SET", "ADD", "LESS", "TIMES", "DIVIDE", "REST",
        "MAKE", "LOOK", "PUT", "LENGTH", "GRID", "GRID_LOOK", "GRID_PUT", "THING", "GIVE", "MARK", "MARK_PUT", "CAST",
        "USE", "RING", "WEIGH", "THROW", "THROW_NOTHING", "INSTEAD", "OPEN", "TAKER", "FINISH", "CLOSE",
        "LOOP", "IF", "END", "BREAK", "AGAIN", "RETURN", "ROUTINE");

    private static final Map<String, Integer> KINDS = Map.of("ALARM", ALARM, "FIRE", FIRE, "FLASH", FLASH,
        "THEFT", THEFT, "ALL", ALL, "HAMMER", HAMMER, "SAW", SAW, "CHISEL", CHISEL, "NOTHING", NOTHING);

    private static final List<String> SORTS =
        List.of("BYTES", "CHARS", "SHORTS", "INTS", "LONGS", "FLOATS", "DOUBLES", "THINGS");

    static final int LEAST_INT = Integer.MIN_VALUE;
    static final int MOST_INT = Integer.MAX_VALUE;
    static final long LEAST = Long.MIN_VALUE;
    static final long MOST = Long.MAX_VALUE;

    private static String document = "";

    /** The document's path is the second argument that .ci/run gives; without the document no quote is checked. */
    static void begin(String[] args) throws IOException {
        if (args.length > 1 && Files.isReadable(Path.of(args[1]))) {
            document = Files.readString(Path.of(args[1])).replaceAll("\\s+", " ");
        }
    }

    /** The answers asked from here on rest on these words of the document. */
    static void says(String words) {
        restOn(words);
        if (!document.isEmpty()) {
            due("the document's having the words \"" + words + "\"", document.contains(words) ? 1 : 0, 1);
        }
    }

    static int sortOf(String name) {
        return SORTS.indexOf(name);
    }

    private static int argument(String word) {
        int colon = word.indexOf(':');
        if (colon >= 0) {
            return 8 * sortOf(word.substring(0, colon)) + Integer.parseInt(word.substring(colon + 1));
        }
        Integer kind = KINDS.get(word);
        return kind == null ? Integer.parseInt(word) : kind;
    }

    private static void addLong(List<int[]> steps, int i, long x) {
        int low = (int) x;
        int high = (int) ((x - low) >> 32);
        steps.add(new int[] {SET, i, high, 0});
        steps.add(new int[] {SET, 7, 65536, 0});
        steps.add(new int[] {TIMES, i, i, 7});
        steps.add(new int[] {TIMES, i, i, 7});
        steps.add(new int[] {SET, 7, low, 0});
        steps.add(new int[] {ADD, i, i, 7});
        steps.add(new int[] {SET, 7, 0, 0});
    }

    private static List<int[]> steps(String text) {
        List<int[]> steps = new ArrayList<>();
        for (String one : text.split(";")) {
            String[] words = one.trim().split(" +");
            if (words[0].isEmpty()) {
                continue;
            }
            if (words[0].equals("LONG")) {
                addLong(steps, Integer.parseInt(words[1]), Long.parseLong(words[2]));
            } else if (words[0].equals("CALL")) {
                steps.add(new int[] {ROUTINE, argument(words[1]), argument(words[2]), 1});
            } else if (words[0].equals("MARK_OF")) {
                steps.add(new int[] {ROUTINE, 0, 0, argument(words[1])});
            } else {
                int[] step = {OPS.indexOf(words[0]), 0, 0, 0};
                for (int i = 1; i < words.length; i++) {
                    step[i] = argument(words[i]);
                }
                steps.add(step);
            }
        }
        return steps;
    }

    /** Adds these steps behind the script. */
    static void add(Stair stair, String text) {
        for (int[] step : steps(text)) {
            stair.step(step[0], step[1], step[2], step[3]);
        }
    }

    /** A new stair with this script, which marks its routines itself. */
    static Stair written(String text) {
        Stair stair = new Stair();
        add(stair, text);
        return stair;
    }

    /** One routine with these steps takes the script's place, and is run. */
    static int again(Stair stair, String text) {
        return again(stair, text, 900);
    }

    /** The same, with at most n steps. */
    static int again(Stair stair, String text, int n) {
        rewrite(stair);
        add(stair, text);
        return stair.run(0, n);
    }

    /** A new stair on which one routine with these steps has been run. */
    static Stair ran(String text) {
        Stair stair = new Stair();
        again(stair, text);
        return stair;
    }

    /**
     * Where NUMBER i is i for each i, one routine with these steps (and others that the text marks) takes so
     * many steps, and tells these.
     */
    static Stair dueTrace(String text, int took, long... outputs) {
        Stair stair = ran("SET 1 1; SET 2 2; SET 3 3; SET 4 4; SET 5 5; SET 6 6; SET 7 7");
        due(text + ": steps", again(stair, text), took);
        dueOutputs(text, stair, outputs);
        return stair;
    }

    /** The same, and the run ends plainly. */
    static void duePlain(String text, int took, long... outputs) {
        dueEnd(text, dueTrace(text, took, outputs), PLAINLY, 0);
    }

    /** The same, and the run ends by a RETURN of this value. */
    static void dueReturn(String text, long value, int took, long... outputs) {
        dueEnd(text, dueTrace(text, took, outputs), BY_RETURN, value);
    }

    /** The same, and the run fails with a kind that has no CAUSE. */
    static void dueToFail(String text, int kind, int took, long... outputs) {
        dueFailure(text, dueTrace(text, took, outputs), kind);
    }

    /** NUMBER i after one routine with these steps has been run on a new stair. */
    static long numberAfter(int i, String text) {
        Stair stair = ran(text);
        due(text + ": end", stair.end(), PLAINLY);
        return stair.number(i);
    }

    /** All that the face tells of the HOUSE. */
    static String houseOf(Stair stair) {
        StringBuilder text = new StringBuilder();
        for (int i = 0; i < 8; i++) {
            text.append(stair.number(i)).append(' ').append(stair.hand(i)).append(' ').append(stair.mark(i)).append('\n');
        }
        for (int i = 0; i < 64; i++) {
            int places = stair.size(i / 8, i % 8);
            text.append(places);
            for (int j = 0; j < places; j++) {
                text.append(' ').append(stair.value(i / 8, i % 8, j));
            }
            text.append('\n');
        }
        for (int i = 0; i < 49; i++) {
            text.append(stair.grid(i / 7, i % 7)).append(i % 7 == 6 ? '\n' : ' ');
        }
        return text.toString();
    }

    /** In a HOUSE that these steps make, this step fails with this kind and leaves the HOUSE as it was. */
    static void dueToLeaveAll(String given, String step, int kind) {
        Stair stair = ran(given);
        due(given + ": end", stair.end(), PLAINLY);
        again(stair, step);
        dueFailure(step, stair, kind);
        dueOutputs(step, stair);
        due(step + ": the HOUSE is as it was", houseOf(stair).equals(houseOf(ran(given))) ? 1 : 0, 1);
    }
}
