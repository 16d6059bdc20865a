/**
 * Each sentence of the document by which a call is refused or thrown: its answer, and that nothing
 * changes by it. Two objects are built by the same calls, and one of them gets the refused call
 * too; then both are asked for all that can be known of them, and must answer alike.
 */
public final class RefusalsTest {
    private static final int NONE = SeatProofs.NONE;
    private static final int FULL = SeatProofs.FULL;
    private static final int THROWN = -99;
    private static final int LEAST = Integer.MIN_VALUE;
    private static final int GREATEST = Integer.MAX_VALUE;

    private interface Builder {
        SeatProofs build();
    }

    private interface Call {
        int on(SeatProofs x);
    }

    /** Of what kind an object can be when a call comes: new, with a proof, without one, cleared. */
    private static final Builder[] KINDS = {
        SeatProofs::new, RefusalsTest::proven, RefusalsTest::dropped, RefusalsTest::unsafe,
        RefusalsTest::unproven, RefusalsTest::cleared,
    };
    /** Those kinds that have spaces and valves. */
    private static final Builder[] BUILT = {
        RefusalsTest::proven, RefusalsTest::dropped, RefusalsTest::unsafe, RefusalsTest::unproven,
    };

    private final Due due = new Due();

    public static void main(String[] args) {
        RefusalsTest t = new RefusalsTest();
        t.kindsAreAsMeant();
        t.spaceOfWrongLiquid();
        t.spaceOfWrongLiquidWhenFull();
        t.spaceWhenFull();
        t.valveOfNoSuchSpace();
        t.valveOfOneSpace();
        t.valveOfWrongSeats();
        t.valveOfWrongArgumentsWhenFull();
        t.valveWhenFull();
        t.levelOfNoSuchSpace();
        t.mayOfWrongLiquid();
        t.mayOfOneLiquid();
        t.mayOfThoseThatMayAlready();
        t.setOfNoSuchValve();
        t.unsureOfNoSuchValve();
        t.unsureThatIsNotNew();
        t.dropOfNoSuchRow();
        t.questionsChangeNothing();
        t.due.end();
    }

    /** Liquids 1, 2 and 3 round a space without one; valve 3 is unsure; 1 and 3 may meet. */
    private static SeatProofs unproven() {
        SeatProofs x = new SeatProofs();
        x.space(1);
        x.space(0);
        x.space(2);
        x.space(3);
        x.level(1, -4);
        x.level(2, 7);
        x.valve(0, 1, 1, true);
        x.valve(1, 2, 2, false);
        x.valve(2, 3, 2, false);
        x.valve(1, 3, 1, false);
        x.unsure(3, true);
        x.may(1, 3);
        return x;
    }

    private static SeatProofs proven() {
        SeatProofs x = unproven();
        x.safe();
        x.set(0, false);
        return x;
    }

    private static SeatProofs dropped() {
        SeatProofs x = proven();
        x.drop(4);
        x.drop(0);
        return x;
    }

    private static SeatProofs unsafe() {
        SeatProofs x = proven();
        x.valve(2, 1, 1, false);
        x.safe();
        return x;
    }

    private static SeatProofs cleared() {
        SeatProofs x = unsafe();
        x.clear();
        return x;
    }

    /** 64 spaces and 64 valves, with a proof. */
    private static SeatProofs full() {
        SeatProofs x = new SeatProofs();
        for (int s = 0; s < 64; s++) {
            x.space(s == 0 ? 1 : s == 63 ? 2 : 0);
        }
        for (int v = 0; v < 64; v++) {
            x.valve(v % 63, v % 63 + 1, 2, v < 5);
        }
        x.safe();
        x.set(1, true);
        return x;
    }

    private static int set(SeatProofs x, int v, boolean open) {
        try {
            return x.set(v, open) ? 1 : 0;
        } catch (IndexOutOfBoundsException e) {
            return e.getClass() == IndexOutOfBoundsException.class ? THROWN : THROWN - 1;
        }
    }

    private static int unsure(SeatProofs x, int v, boolean on) {
        try {
            return x.unsure(v, on) ? 1 : 0;
        } catch (IndexOutOfBoundsException e) {
            return e.getClass() == IndexOutOfBoundsException.class ? THROWN : THROWN - 1;
        }
    }

    private static void tellProof(SeatProofs x, StringBuilder told) {
        told.append("; rows ").append(x.rows()).append(", check ").append(x.check());
        for (int k = 0; k < 9; k++) {
            told.append("; row ").append(k);
            for (int i = 0; i < 7; i++) {
                told.append(' ').append(x.row(k, i));
            }
        }
        told.append("; culprit");
        for (int what = 0; what < 4; what++) {
            told.append(' ').append(x.culprit(what));
        }
    }

    /** All that can be known of an object; it is changed thereby, so this can be asked once. */
    private static String tell(SeatProofs x) {
        StringBuilder told = new StringBuilder("tested ");
        told.append(x.tested());
        tellProof(x, told);
        told.append("; safe ").append(x.safe());
        tellProof(x, told);
        told.append("; set and unsure");
        for (int v = 0; v < 6; v++) {
            told.append(' ').append(set(x, v, true)).append(' ').append(x.tested());
            told.append(' ').append(unsure(x, v, true));
        }
        told.append("; may");
        for (int p = 1; p < 16; p++) {
            for (int q = p + 1; q < 16; q++) {
                told.append(' ').append(x.may(p, q));
            }
        }
        told.append("; space ").append(x.space(0));
        told.append("; valve ").append(x.valve(0, 1, 1, false));
        return told.toString();
    }

    private void refused(String name, Call call, int answer, Builder... kinds) {
        for (int n = 0; n < kinds.length; n++) {
            String which = name + " on kind " + n;
            SeatProofs x = kinds[n].build();
            due.same(which, call.on(x), answer);
            due.alike("after " + which, tell(x), tell(kinds[n].build()));
        }
    }

    private void kindsAreAsMeant() {
        due.part("the kinds of objects");
        due.same("rows() of proven", proven().rows(), 15);
        due.yes("tested() of proven", proven().tested() > 0);
        due.same("rows() of dropped", dropped().rows(), 13);
        due.same("rows() of unproven", unproven().rows(), 0);
        due.same("rows() of unsafe", unsafe().rows(), 0);
        due.same("culprit(0) of unsafe", unsafe().culprit(0), 5);
        due.same("rows() of full", full().rows(), 130);
        due.same("rows() of cleared", cleared().rows(), 0);
    }

    private void spaceOfWrongLiquid() {
        due.part("promise 2: NONE, refused, when liquid is not 0 .. 15");
        int[] wrong = {-1, 16, 17, -15, 31, 32, 256, 65536, -65536, LEAST, GREATEST};
        for (int liquid : wrong) {
            refused("space(" + liquid + ")", x -> x.space(liquid), NONE, KINDS);
        }
    }

    private void spaceOfWrongLiquidWhenFull() {
        due.part("promise 2: NONE, refused, also of 64 spaces");
        refused("space(16)", x -> x.space(16), NONE, RefusalsTest::full);
        refused("space(-1)", x -> x.space(-1), NONE, RefusalsTest::full);
    }

    private void spaceWhenFull() {
        due.part("promise 2: FULL");
        for (int liquid = 0; liquid < 16; liquid++) {
            int l = liquid;
            refused("space(" + l + ")", x -> x.space(l), FULL, RefusalsTest::full);
        }
    }

    private void valveOfNoSuchSpace() {
        due.part("promise 3: NONE, refused, when there is no such space");
        int[] wrong = {-1, 4, 5, 63, 64, 68, -64, 256, 65536, -65536, LEAST, GREATEST};
        for (int s : wrong) {
            refused("valve(" + s + ", 1, 1, true)", x -> x.valve(s, 1, 1, true), NONE, KINDS);
            refused("valve(1, " + s + ", 2, false)", x -> x.valve(1, s, 2, false), NONE, KINDS);
            refused("valve(" + s + ", 9, 1, true)", x -> x.valve(s, 9, 1, true), NONE, KINDS);
        }
        refused("valve(0, 1, 1, true) without spaces", x -> x.valve(0, 1, 1, true), NONE,
                SeatProofs::new, RefusalsTest::cleared);
    }

    private void valveOfOneSpace() {
        due.part("promise 3: NONE, refused, when both are one");
        for (int space = 0; space < 4; space++) {
            int s = space;
            refused("valve(" + s + ", " + s + ", 1, true)", x -> x.valve(s, s, 1, true), NONE, BUILT);
            refused("valve(" + s + ", " + s + ", 2, false)", x -> x.valve(s, s, 2, false), NONE, BUILT);
        }
    }

    private void valveOfWrongSeats() {
        due.part("promise 3: NONE, refused, when seats is not 1 or 2");
        int[] wrong = {0, 3, -1, -2, 4, 257, 258, 65537, LEAST, GREATEST};
        for (int seats : wrong) {
            refused("valve(0, 1, " + seats + ", true)", x -> x.valve(0, 1, seats, true), NONE, BUILT);
            refused("valve(0, 1, " + seats + ", false)", x -> x.valve(0, 1, seats, false), NONE, BUILT);
        }
    }

    private void valveOfWrongArgumentsWhenFull() {
        due.part("promise 3: NONE, refused, also of 64 valves");
        refused("valve(64, 0, 1, true)", x -> x.valve(64, 0, 1, true), NONE, RefusalsTest::full);
        refused("valve(0, -1, 1, true)", x -> x.valve(0, -1, 1, true), NONE, RefusalsTest::full);
        refused("valve(5, 5, 1, true)", x -> x.valve(5, 5, 1, true), NONE, RefusalsTest::full);
        refused("valve(0, 1, 3, true)", x -> x.valve(0, 1, 3, true), NONE, RefusalsTest::full);
        refused("valve(0, 1, 0, true)", x -> x.valve(0, 1, 0, true), NONE, RefusalsTest::full);
    }

    private void valveWhenFull() {
        due.part("promise 3: FULL");
        refused("valve(0, 1, 1, true)", x -> x.valve(0, 1, 1, true), FULL, RefusalsTest::full);
        refused("valve(63, 0, 1, false)", x -> x.valve(63, 0, 1, false), FULL, RefusalsTest::full);
        refused("valve(0, 63, 2, true)", x -> x.valve(0, 63, 2, true), FULL, RefusalsTest::full);
        refused("valve(1, 2, 2, false)", x -> x.valve(1, 2, 2, false), FULL, RefusalsTest::full);
    }

    private void levelOfNoSuchSpace() {
        due.part("promise 4: false, refused, when there is no such space");
        int[] wrong = {-1, 4, 5, 63, 64, 68, -64, 256, 65536, -65536, LEAST, GREATEST};
        for (int s : wrong) {
            refused("level(" + s + ", 9)", x -> x.level(s, 9) ? 1 : 0, 0, KINDS);
        }
        refused("level(0, 1) without spaces", x -> x.level(0, 1) ? 1 : 0, 0,
                SeatProofs::new, RefusalsTest::cleared);
        refused("level(64, -1) of 64", x -> x.level(64, -1) ? 1 : 0, 0, RefusalsTest::full);
    }

    private void mayOfWrongLiquid() {
        due.part("promise 5: false, refused, when one is not 1 .. 15");
        int[] wrong = {0, -1, 16, 17, 32, 33, 34, -30, 64, 256, 65536, LEAST, GREATEST};
        for (int l : wrong) {
            refused("may(" + l + ", 2)", x -> x.may(l, 2) ? 1 : 0, 0, KINDS);
            refused("may(2, " + l + ")", x -> x.may(2, l) ? 1 : 0, 0, KINDS);
            refused("may(15, " + l + ")", x -> x.may(15, l) ? 1 : 0, 0, KINDS);
        }
        refused("may(0, 16)", x -> x.may(0, 16) ? 1 : 0, 0, KINDS);
    }

    private void mayOfOneLiquid() {
        due.part("promise 5: false, refused, when both are one");
        for (int liquid = 1; liquid < 16; liquid++) {
            int l = liquid;
            refused("may(" + l + ", " + l + ")", x -> x.may(l, l) ? 1 : 0, 0, KINDS);
        }
    }

    private void mayOfThoseThatMayAlready() {
        due.part("promise 5: false, refused, when they may already");
        refused("may(1, 3)", x -> x.may(1, 3) ? 1 : 0, 0, BUILT);
        refused("may(3, 1)", x -> x.may(3, 1) ? 1 : 0, 0, BUILT);
    }

    private void setOfNoSuchValve() {
        due.part("promise 11: an index that no valve has is thrown, and nothing changes");
        int[] wrong = {-1, 5, 6, 63, 64, 65, -64, 256, 65536, -65536, LEAST, GREATEST};
        for (int v : wrong) {
            refused("set(" + v + ", true)", x -> set(x, v, true), THROWN, KINDS);
            refused("set(" + v + ", false)", x -> set(x, v, false), THROWN, KINDS);
        }
        refused("set(4, true) of 4", x -> set(x, 4, true), THROWN,
                RefusalsTest::proven, RefusalsTest::dropped, RefusalsTest::unproven);
        refused("set(0, true) without valves", x -> set(x, 0, true), THROWN,
                SeatProofs::new, RefusalsTest::cleared);
        refused("set(64, true) of 64", x -> set(x, 64, true), THROWN, RefusalsTest::full);
        refused("set(-1, true) of 64", x -> set(x, -1, true), THROWN, RefusalsTest::full);
    }

    private void unsureOfNoSuchValve() {
        due.part("promise 12: an index that no valve has is thrown, and nothing changes");
        int[] wrong = {-1, 5, 6, 63, 64, 65, -64, 256, 65536, -65536, LEAST, GREATEST};
        for (int v : wrong) {
            refused("unsure(" + v + ", true)", x -> unsure(x, v, true), THROWN, KINDS);
            refused("unsure(" + v + ", false)", x -> unsure(x, v, false), THROWN, KINDS);
        }
        refused("unsure(4, false) of 4", x -> unsure(x, 4, false), THROWN,
                RefusalsTest::proven, RefusalsTest::dropped, RefusalsTest::unproven);
        refused("unsure(0, true) without valves", x -> unsure(x, 0, true), THROWN,
                SeatProofs::new, RefusalsTest::cleared);
        refused("unsure(64, true) of 64", x -> unsure(x, 64, true), THROWN, RefusalsTest::full);
        refused("unsure(-1, true) of 64", x -> unsure(x, -1, true), THROWN, RefusalsTest::full);
    }

    private void unsureThatIsNotNew() {
        due.part("promise 12: whether that is new; then the proof goes");
        refused("unsure(3, true)", x -> unsure(x, 3, true), 0, BUILT);
        for (int valve = 0; valve < 3; valve++) {
            int v = valve;
            refused("unsure(" + v + ", false)", x -> unsure(x, v, false), 0, BUILT);
        }
    }

    private void dropOfNoSuchRow() {
        due.part("promise 14: false, refused, when there is no such row");
        int[] wrong = {-1, 15, 16, 64, 974, 975, 65536, -65536, LEAST, GREATEST};
        for (int k : wrong) {
            refused("drop(" + k + ")", x -> x.drop(k) ? 1 : 0, 0, KINDS);
        }
        refused("drop(13) of 13", x -> x.drop(13) ? 1 : 0, 0, RefusalsTest::dropped);
        refused("drop(130) of 130", x -> x.drop(130) ? 1 : 0, 0, RefusalsTest::full);
        refused("drop(0) without a proof", x -> x.drop(0) ? 1 : 0, 0, SeatProofs::new,
                RefusalsTest::unsafe, RefusalsTest::unproven, RefusalsTest::cleared);
    }

    private void questionsChangeNothing() {
        due.part("promises 7 to 10 and 13: what is only asked changes nothing");
        for (Builder kind : new Builder[] {SeatProofs::new, RefusalsTest::proven,
                RefusalsTest::dropped, RefusalsTest::unsafe, RefusalsTest::full}) {
            SeatProofs x = kind.build();
            x.culprit(-1);
            x.culprit(4);
            x.row(-1, 0);
            x.row(x.rows(), 0);
            x.row(0, -1);
            x.row(0, GREATEST);
            x.check();
            x.tested();
            due.alike("after questions", tell(x), tell(kind.build()));
        }
    }
}
