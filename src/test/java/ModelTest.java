/** Long runs of calls, always the same ones, on SeatProofs and on the plain model side by side. */
public final class ModelTest {
    private static final int RUNS = 6000;
    /** The document promises nothing about an object after so many calls. */
    private static final int MOST_CALLS = 512;
    private static final long[] HEIGHTS = {0, 0, 0, 1, -1, 5, Long.MAX_VALUE, Long.MIN_VALUE};

    private final Due due;
    private final int run;
    private long seed;
    private SeatProofs x = new SeatProofs();
    private PlainModel m = new PlainModel();
    private final int liquids;
    private final int spaces;
    private final int valves;
    private final boolean flat;
    private int calls = 0;

    private ModelTest(Due due, int run) {
        this.due = due;
        this.run = run;
        seed = run * 7919L + 17;
        liquids = 1 + below(run % 10 == 0 ? 15 : 4);
        spaces = 2 + below(run % 50 == 0 ? 66 : 10);
        valves = below(run % 50 == 0 ? 68 : 12);
        flat = below(2) == 0;
    }

    private int below(int bound) {
        seed = seed * 6364136223846793005L + 1442695040888963407L;
        return (int) ((seed >>> 33) % bound);
    }

    private void same(String call, long got, long want) {
        calls++;
        if (calls <= MOST_CALLS) {
            due.same(call, got, want);
        }
    }

    private boolean oneIn(int n) {
        return below(n) == 0;
    }

    private void addSpace() {
        int liquid = oneIn(40) ? (oneIn(2) ? -1 : 16) : oneIn(2) ? 0 : 1 + below(liquids);
        same("space(" + liquid + ")", x.space(liquid), m.space(liquid));
    }

    private void addValve() {
        int a = below(spaces + 1) - (oneIn(20) ? 1 : 0);
        int b = below(spaces + 1) - (oneIn(20) ? 1 : 0);
        int seats = oneIn(30) ? 3 * below(2) : 1 + below(2);
        boolean open = oneIn(5);
        same("valve(" + a + ", " + b + ", " + seats + ", " + open + ")",
                x.valve(a, b, seats, open), m.valve(a, b, seats, open));
    }

    private void setLevel() {
        int s = below(spaces + 2) - 1;
        long h = HEIGHTS[below(HEIGHTS.length)];
        same("level(" + s + ", " + h + ")", x.level(s, h) ? 1 : 0, m.level(s, h) ? 1 : 0);
    }

    private void letMeet() {
        int p = below(liquids + 2);
        int q = oneIn(20) ? 16 : below(liquids + 2);
        same("may(" + p + ", " + q + ")", x.may(p, q) ? 1 : 0, m.may(p, q) ? 1 : 0);
    }

    private void turn() {
        int v = below(valves + 2) - (oneIn(10) ? 1 : 0);
        boolean open = oneIn(3);
        int got;
        try {
            got = x.set(v, open) ? 1 : 0;
        } catch (IndexOutOfBoundsException e) {
            got = 2;
        }
        same("set(" + v + ", " + open + ")", got, m.lacksValve(v) ? 2 : m.set(v, open) ? 1 : 0);
    }

    private void doubt() {
        int v = below(valves + 2) - (oneIn(10) ? 1 : 0);
        boolean on = oneIn(2);
        int got;
        try {
            got = x.unsure(v, on) ? 1 : 0;
        } catch (IndexOutOfBoundsException e) {
            got = 2;
        }
        same("unsure(" + v + ", " + on + ")", got, m.lacksValve(v) ? 2 : m.unsure(v, on) ? 1 : 0);
    }

    private void dropRow() {
        int k = below(m.rows() + 2) - 1;
        same("drop(" + k + ")", x.drop(k) ? 1 : 0, m.drop(k) ? 1 : 0);
    }

    private void compareSmall() {
        same("rows()", x.rows(), m.rows());
        same("tested()", x.tested(), m.tested());
        int what = below(6) - 1;
        same("culprit(" + what + ")", x.culprit(what), m.culprit(what));
    }

    private void compareRow(int k) {
        int last = 5 + Math.max(0, m.row(k, 3));
        for (int i = -1; i <= last; i++) {
            same("row(" + k + ", " + i + ")", x.row(k, i), m.row(k, i));
        }
    }

    private void proveAgain() {
        same("safe()", x.safe(), m.safe());
        for (int what = 0; what < 4; what++) {
            same("culprit(" + what + ")", x.culprit(what), m.culprit(what));
        }
    }

    private void step() {
        int kind = below(100);
        if (kind < 30) {
            turn();
        } else if (kind < 50) {
            proveAgain();
        } else if (kind < 70) {
            dropRow();
        } else if (kind < 85) {
            same("check()", x.check(), m.check());
        } else if (kind < 89) {
            doubt();
        } else if (kind < 92) {
            letMeet();
        } else if (kind < 95) {
            setLevel();
        } else if (kind < 97) {
            addValve();
        } else if (kind < 98) {
            addSpace();
        } else if (oneIn(8)) {
            x.clear();
            calls++;
            m = new PlainModel();
            build();
        }
    }

    private void build() {
        for (int n = 0; n < spaces; n++) {
            addSpace();
        }
        for (int n = 0; n < valves; n++) {
            addValve();
        }
        for (int n = 0; !flat && n < spaces; n++) {
            setLevel();
        }
        for (int n = 0; n < liquids * 2; n++) {
            letMeet();
        }
    }

    private void go() {
        due.part("run " + run);
        build();
        while (calls < MOST_CALLS && !due.anyWrong()) {
            due.part("run " + run + ", call " + calls);
            step();
            compareSmall();
            if (oneIn(2)) {
                compareRow(below(m.rows() + 2) - 1);
            }
        }
    }

    public static void main(String[] args) {
        Due due = new Due();
        for (int run = 0; run < RUNS && !due.anyWrong(); run++) {
            new ModelTest(due, run).go();
        }
        due.end();
    }
}
