/**
 * A TrialStair that counts its calls: what one answers behind its 512th call is free, so a test that
 * asks more of it tests nothing that is promised.
 */
final class Stair {
    static final int MOST_CALLS = 512;

    private final TrialStair stair = new TrialStair();
    private final int mostCalls;
    private int calls;

    Stair() {
        this(MOST_CALLS);
    }

    private Stair(int mostCalls) {
        this.mostCalls = mostCalls;
    }

    /** For a limit of the document that no 512 calls can reach. */
    static Stair ofAnyCalls() {
        return new Stair(Integer.MAX_VALUE);
    }

    int callsLeft() {
        return mostCalls - calls;
    }

    private TrialStair called() {
        calls++;
        if (calls == mostCalls + 1) {
            TestBase.due("calls of one object", calls, mostCalls);
        }
        return stair;
    }

    int step(int op, int a, int b, int c) {
        return called().step(op, a, b, c);
    }

    int wipe() {
        return called().wipe();
    }

    int run(int r, int n) {
        return called().run(r, n);
    }

    int end() {
        return called().end();
    }

    long result() {
        return called().result();
    }

    int kind() {
        return called().kind();
    }

    int cause(int i) {
        return called().cause(i);
    }

    long out(int i) {
        return called().out(i);
    }

    int finished(int i) {
        return called().finished(i);
    }

    int depth() {
        return called().depth();
    }

    int status(int what) {
        return called().status(what);
    }

    long number(int i) {
        return called().number(i);
    }

    int hand(int i) {
        return called().hand(i);
    }

    long mark(int i) {
        return called().mark(i);
    }

    int size(int sort, int shelf) {
        return called().size(sort, shelf);
    }

    long value(int sort, int shelf, int i) {
        return called().value(sort, shelf, i);
    }

    int grid(int i, int j) {
        return called().grid(i, j);
    }
}
