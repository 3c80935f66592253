import java.util.ArrayDeque;
import java.util.ArrayList;
import java.util.Deque;
import java.util.List;

/**
 * The document once more, written another way: the script becomes a tree that is worked by recursion,
 * rows are Java's own, and the machine's failures are those that Java's machine throws.
 */
final class Oracle {
    private static class Thing {
        long mark;

        long use(long x) {
            return mark + x;
        }
    }

    private interface Ringing {
        long ring(long x);
    }

    private static class Saw extends Thing implements Ringing {
        @Override
        long use(long x) {
            return mark - x;
        }

        @Override
        public long ring(long x) {
            return mark ^ x;
        }
    }

    private static final class Chisel extends Saw {
        @Override
        long use(long x) {
            return 2 * super.use(x);
        }

        @Override
        public long ring(long x) {
            return super.ring(x) + 1;
        }
    }

    private static final class Failed extends RuntimeException {
        private static final long serialVersionUID = 1;
        final int kind;
        final transient Failed before;

        Failed(int kind, Failed before) {
            super(null, null, false, false);
            this.kind = kind;
            this.before = before;
        }
    }

    private static final class Stopped extends RuntimeException {
        private static final long serialVersionUID = 1;
        final int how;

        Stopped(int how) {
            super(null, null, false, false);
            this.how = how;
        }
    }

    private static final class Node {
        final int place;
        final int[] step;
        final List<Node> body = new ArrayList<>();
        List<Node> taker;
        List<Node> finish;

        Node(int place, int[] step) {
            this.place = place;
            this.step = step;
        }

        boolean isTrial() {
            return step[0] == 25;
        }
    }

    private enum Way { PLAIN, BREAK, AGAIN, RETURN }

    /** How a part was left, and the value of a RETURN. */
    private record Left(Way way, long value) {
    }

    private static final Left PLAIN = new Left(Way.PLAIN, 0);

    private final List<int[]> script = new ArrayList<>();
    private final long[] numbers = new long[8];
    private final Thing[] hands = new Thing[8];
    private final Object[][] rows = new Object[8][8];
    private int[][] grid;

    private int allSteps;
    private int runs;

    private int end = -1;
    private long result;
    private Failed failed;
    private List<Long> outs = new ArrayList<>();
    private List<Integer> finishes = new ArrayList<>();
    private int deepest;
    private int taken;

    private int left;
    private int open;
    private final Deque<Failed> takersAtWork = new ArrayDeque<>();

    int step(int op, int a, int b, int c) {
        if (op < 0 || op > 35) {
            return -1;
        }
        if (script.size() == 2000) {
            return -2;
        }
        script.add(new int[] {op, a, b, c});
        return script.size();
    }

    int wipe() {
        int had = script.size();
        script.clear();
        return had;
    }

    private List<Integer> marks() {
        List<Integer> marks = new ArrayList<>();
        for (int i = 0; i < script.size(); i++) {
            if (script.get(i)[0] == 35 && script.get(i)[3] % 2 == 0) {
                marks.add(i);
            }
        }
        return marks;
    }

    private List<Node> parse(int routine) {
        List<Integer> marks = marks();
        int first = marks.get(routine) + 1;
        int behind = routine + 1 < marks.size() ? marks.get(routine + 1) : script.size();
        List<Node> whole = new ArrayList<>();
        Deque<Node> blocks = new ArrayDeque<>();
        Deque<List<Node>> parts = new ArrayDeque<>();
        parts.push(whole);
        for (int i = first; i < behind; i++) {
            Node node = new Node(i, script.get(i));
            Node block = blocks.peek();
            boolean inTrial = block != null && block.isTrial();
            int op = node.step[0];
            if (op == 26 && inTrial && block.taker == null && block.finish == null) {
                block.taker = new ArrayList<>();
                parts.pop();
                parts.push(block.taker);
            } else if (op == 27 && inTrial && block.finish == null) {
                block.finish = new ArrayList<>();
                parts.pop();
                parts.push(block.finish);
            } else if (op == 28 && inTrial || op == 31 && block != null && !inTrial) {
                blocks.pop();
                parts.pop();
            } else {
                parts.peek().add(node);
                if (op == 25 || op == 29 || op == 30) {
                    blocks.push(node);
                    parts.push(node.body);
                }
            }
        }
        return whole;
    }

    int run(int r, int n) {
        if (r < 0 || r >= marks().size()) {
            return -1;
        }
        if (n < 1 || n > 1000) {
            return -2;
        }
        if (allSteps > 8000 - n) {
            return -3;
        }
        end = 0;
        result = 0;
        failed = null;
        outs = new ArrayList<>();
        finishes = new ArrayList<>();
        deepest = 0;
        taken = 0;
        left = n;
        open = 0;
        takersAtWork.clear();
        try {
            Left how = workRoutine(r);
            end = how.way() == Way.PLAIN ? 0 : 1;
            result = how.value();
        } catch (Failed f) {
            end = 2;
            failed = f;
        } catch (Stopped s) {
            end = s.how;
        }
        allSteps += n - left;
        runs++;
        return n - left;
    }

    private void enter() {
        if (open == 200) {
            throw new Stopped(4);
        }
        open++;
        deepest = Math.max(deepest, open);
    }

    private void take() {
        if (left == 0) {
            throw new Stopped(3);
        }
        left--;
    }

    /** Answers only plainly or with a RETURN. */
    private Left workRoutine(int r) {
        enter();
        try {
            Left how = workPart(parse(r));
            return how.way() == Way.BREAK || how.way() == Way.AGAIN ? new Left(Way.RETURN, 0) : how;
        } finally {
            open--;
        }
    }

    private Left workPart(List<Node> part) {
        for (Node node : part) {
            take();
            Left how = workNode(node);
            if (how.way() != Way.PLAIN) {
                return how;
            }
        }
        return PLAIN;
    }

    private Left workNode(Node node) {
        int[] s = node.step;
        switch (s[0]) {
            case 25:
                return opened(() -> workTrial(node));
            case 29:
                return opened(() -> workLoop(node));
            case 30:
                return opened(() -> numbers[s[1] & 7] < numbers[s[2] & 7] ? workPart(node.body) : PLAIN);
            case 32:
                return new Left(Way.BREAK, 0);
            case 33:
                return new Left(Way.AGAIN, 0);
            case 34:
                return new Left(Way.RETURN, numbers[s[1] & 7]);
            case 35:
                if (s[1] < 0 || s[1] >= marks().size()) {
                    throw new Failed(6, null);
                }
                numbers[s[2] & 7] = workRoutine(s[1]).value();
                return PLAIN;
            default:
                workPlainStep(s);
                return PLAIN;
        }
    }

    private interface Work {
        Left now();
    }

    private Left opened(Work work) {
        enter();
        try {
            return work.now();
        } finally {
            open--;
        }
    }

    private Left workLoop(Node node) {
        int n = node.step[1] & 7;
        while (numbers[n] > 0) {
            numbers[n]--;
            Left how = workPart(node.body);
            if (how.way() == Way.RETURN) {
                return how;
            }
            if (how.way() == Way.BREAK) {
                return PLAIN;
            }
            take();
        }
        return PLAIN;
    }

    private static boolean takes(int bits, int kind) {
        List<Integer> wanted = new ArrayList<>(List.of(10, kind));
        if (kind == 2) {
            wanted.add(1);
        }
        if (kind == 2 || kind == 1) {
            wanted.add(0);
        }
        for (int bit : wanted) {
            if ((bits >> bit) % 2 != 0) {
                return true;
            }
        }
        return false;
    }

    private Left workTrial(Node node) {
        Left how = null;
        Failed with = null;
        try {
            how = workPart(node.body);
        } catch (Failed f) {
            with = f;
        }
        if (with != null && node.taker != null && takes(node.step[1], with.kind)) {
            taken++;
            takersAtWork.push(with);
            try {
                how = workPart(node.taker);
                with = null;
            } catch (Failed f) {
                with = f;
            } finally {
                takersAtWork.pop();
            }
        }
        if (node.finish != null) {
            finishes.add(node.place);
            workPart(node.finish);
        }
        if (with != null) {
            throw with;
        }
        return how;
    }

    private void workPlainStep(int[] s) {
        try {
            workHouseStep(s);
        } catch (ArithmeticException e) {
            throw new Failed(4, null);
        } catch (ArrayIndexOutOfBoundsException e) {
            throw new Failed(5, null);
        } catch (NullPointerException e) {
            throw new Failed(6, null);
        } catch (NegativeArraySizeException e) {
            throw new Failed(7, null);
        } catch (ClassCastException e) {
            throw new Failed(8, null);
        } catch (ArrayStoreException e) {
            throw new Failed(9, null);
        }
    }

    private void workHouseStep(int[] s) {
        int a = s[1] & 7;
        int b = s[2] & 7;
        int c = s[3] & 7;
        int sort = s[1] / 8 & 7;
        if (s[1] < 0) {
            sort = s[1] >> 3 & 7;
        }
        switch (s[0]) {
            case 0:
                if (outs.size() < 500) {
                    outs.add(numbers[a]);
                }
                break;
            case 1: numbers[a] = s[2]; break;
            case 2: numbers[a] = numbers[b] + numbers[c]; break;
            case 3: numbers[a] = numbers[b] - numbers[c]; break;
            case 4: numbers[a] = numbers[b] * numbers[c]; break;
            case 5: numbers[a] = numbers[b] / numbers[c]; break;
            case 6: numbers[a] = numbers[b] % numbers[c]; break;
            case 7: rows[sort][a] = newRow(sort, (int) numbers[b], s[3] % 2 != 0); break;
            case 8: look(sort, rows[sort][a], (int) numbers[b], c); break;
            case 9: put(sort, rows[sort][a], (int) numbers[b], c); break;
            case 10:
                if (rows[sort][a] == null) {
                    throw new NullPointerException();
                }
                numbers[b] = java.lang.reflect.Array.getLength(rows[sort][a]);
                break;
            case 11: grid = new int[masked((int) numbers[a], 7)][masked((int) numbers[b], 7)]; break;
            case 12: numbers[c] = grid[(int) numbers[a]][(int) numbers[b]]; break;
            case 13: grid[(int) numbers[a]][(int) numbers[b]] = (int) numbers[c]; break;
            case 14: {
                Thing[] made = {new Thing(), new Saw(), new Chisel(), null};
                hands[a] = made[s[2] & 3];
                if (hands[a] != null) {
                    hands[a].mark = numbers[c];
                }
                break;
            }
            case 15: hands[b] = hands[a]; break;
            case 16: numbers[b] = hands[a].mark; break;
            case 17: hands[a].mark = numbers[b]; break;
            case 18: hands[c] = cast(hands[a], s[2] & 3); break;
            case 19: numbers[c] = hands[a].use(numbers[b]); break;
            case 20: {
                if (hands[a] == null) {
                    throw new NullPointerException();
                }
                numbers[c] = ((Ringing) hands[a]).ring(numbers[b]);
                break;
            }
            case 21: numbers[c] = 3 * numbers[b] + hands[a].mark; break;
            case 22: throw new Failed(s[1] & 3, null);
            case 23: throw new Failed(6, null);
            case 24: throw new Failed(s[1] & 3, takersAtWork.peek());
            case 26: case 27: case 28: case 31: break;
            default: throw new IllegalStateException();
        }
    }

    private static int masked(int size, int bits) {
        return size < 0 ? size : size & bits;
    }

    private static Thing cast(Thing thing, int as) {
        switch (as) {
            case 0:
                if (thing != null && thing.getClass() != Thing.class) {
                    throw new ClassCastException();
                }
                return thing;
            case 1:
                return (Saw) thing;
            case 2:
                return (Chisel) thing;
            default:
                return (Thing) (Ringing) thing;
        }
    }

    private static Object newRow(int sort, int size, boolean odd) {
        int n = masked(size, 63);
        switch (sort) {
            case 0: return new byte[n];
            case 1: return new char[n];
            case 2: return new short[n];
            case 3: return new int[n];
            case 4: return new long[n];
            case 5: return new float[n];
            case 6: return new double[n];
            default: return odd ? new Saw[n] : new Thing[n];
        }
    }

    private static long looked(int sort, Object row, int i) {
        switch (sort) {
            case 0: return ((byte[]) row)[i];
            case 1: return ((char[]) row)[i];
            case 2: return ((short[]) row)[i];
            case 3: return ((int[]) row)[i];
            case 4: return ((long[]) row)[i];
            case 5: return (long) ((float[]) row)[i];
            default: return (long) ((double[]) row)[i];
        }
    }

    private void look(int sort, Object row, int i, int c) {
        if (sort == 7) {
            hands[c] = ((Thing[]) row)[i];
        } else {
            numbers[c] = looked(sort, row, i);
        }
    }

    private void put(int sort, Object row, int i, int c) {
        long n = numbers[c];
        switch (sort) {
            case 0: ((byte[]) row)[i] = (byte) n; break;
            case 1: ((char[]) row)[i] = (char) n; break;
            case 2: ((short[]) row)[i] = (short) n; break;
            case 3: ((int[]) row)[i] = (int) n; break;
            case 4: ((long[]) row)[i] = n; break;
            case 5: ((float[]) row)[i] = n; break;
            case 6: ((double[]) row)[i] = n; break;
            default: ((Thing[]) row)[i] = hands[c]; break;
        }
    }

    private static int kindOf(Thing thing) {
        return thing == null ? -1 : thing instanceof Chisel ? 2 : thing instanceof Saw ? 1 : 0;
    }

    int end() {
        return end;
    }

    long result() {
        return result;
    }

    private List<Integer> failures() {
        List<Integer> kinds = new ArrayList<>();
        for (Failed f = failed; f != null; f = f.before) {
            kinds.add(f.kind);
        }
        return kinds;
    }

    int kind() {
        return failed == null ? -1 : failed.kind;
    }

    int cause(int i) {
        List<Integer> kinds = failures();
        return i < 0 || i >= kinds.size() - 1 ? -1 : kinds.get(i + 1);
    }

    long out(int i) {
        return i < 0 || i >= outs.size() ? 0 : outs.get(i);
    }

    int finished(int i) {
        return i < 0 || i >= finishes.size() ? -1 : finishes.get(i);
    }

    int depth() {
        return deepest;
    }

    int status(int what) {
        switch (what) {
            case 0: return script.size();
            case 1: return marks().size();
            case 2: return allSteps;
            case 3: return runs;
            case 4: return outs.size();
            case 5: return finishes.size();
            case 6: return Math.max(0, failures().size() - 1);
            case 7: return taken;
            default: return -1;
        }
    }

    private static boolean eight(int i) {
        return i >= 0 && i <= 7;
    }

    long number(int i) {
        return eight(i) ? numbers[i] : 0;
    }

    int hand(int i) {
        return eight(i) ? kindOf(hands[i]) : -2;
    }

    long mark(int i) {
        return eight(i) && hands[i] != null ? hands[i].mark : 0;
    }

    int size(int sort, int shelf) {
        if (!eight(sort) || !eight(shelf)) {
            return -2;
        }
        return rows[sort][shelf] == null ? -1 : java.lang.reflect.Array.getLength(rows[sort][shelf]);
    }

    long value(int sort, int shelf, int i) {
        if (i < 0 || i >= size(sort, shelf)) {
            return 0;
        }
        return sort == 7 ? kindOf(((Thing[]) rows[7][shelf])[i]) : looked(sort, rows[sort][shelf], i);
    }

    int grid(int i, int j) {
        return grid == null || i < 0 || i >= grid.length || j < 0 || j >= grid[i].length ? 0 : grid[i][j];
    }
}
