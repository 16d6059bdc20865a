/** Each promise of the document by its number: ordinary inputs, the edges, and wrong inputs. */
public final class PromisesTest {
    private static final int NONE = SeatProofs.NONE;
    private static final int FULL = SeatProofs.FULL;

    private final Due due = new Due();

    public static void main(String[] args) {
        PromisesTest t = new PromisesTest();
        t.newObject();
        t.space();
        t.spaceEndsProof();
        t.valve();
        t.valveEndsProof();
        t.level();
        t.levelHoldsBack();
        t.may();
        t.safe();
        t.lettingThrough();
        t.culprit();
        t.culpritOfThatSpace();
        t.culpritIsKept();
        t.rows();
        t.row();
        t.rowCutByLevel();
        t.check();
        t.checkFindsMeeting();
        t.set();
        t.setThrows();
        t.setEndsProof();
        t.unsure();
        t.unsureLetsThrough();
        t.tested();
        t.drop();
        t.dropHidesClash();
        t.clear();
        t.clearForgetsEnds();
        t.largest();
        t.due.end();
    }

    private void asNew(SeatProofs x) {
        due.same("rows()", x.rows(), 0);
        due.same("tested()", x.tested(), 0);
        due.same("check()", x.check(), 0);
        for (int what = -1; what < 5; what++) {
            due.same("culprit", x.culprit(what), NONE);
        }
        due.same("row(0, 0)", x.row(0, 0), NONE);
        due.no("drop(0)", x.drop(0));
        due.no("level(0, 1)", x.level(0, 1));
        due.yes("set(0) throws", Thrown.bySet(x, 0, true));
        due.yes("unsure(0) throws", Thrown.byUnsure(x, 0, true));
        due.same("valve(0, 1, 1, true)", x.valve(0, 1, 1, true), NONE);
        due.same("safe()", x.safe(), 1);
        due.same("rows()", x.rows(), 0);
        for (int p = 1; p < 16; p++) {
            for (int q = p + 1; q < 16; q++) {
                due.yes("may(" + p + ", " + q + ")", x.may(p, q));
            }
        }
    }

    private void newObject() {
        due.part("promise 1");
        asNew(new SeatProofs());
    }

    private void space() {
        due.part("promise 2");
        SeatProofs x = new SeatProofs();
        due.same("space(-1)", x.space(-1), NONE);
        due.same("space(16)", x.space(16), NONE);
        due.same("space(min)", x.space(Integer.MIN_VALUE), NONE);
        due.same("space(max)", x.space(Integer.MAX_VALUE), NONE);
        for (int n = 0; n < 64; n++) {
            due.same("space(" + n % 16 + ")", x.space(n % 16), n);
        }
        due.same("space(0) of 64", x.space(0), FULL);
        due.same("space(15) of 64", x.space(15), FULL);
        due.same("space(16) of 64", x.space(16), NONE);
        due.same("space(-1) of 64", x.space(-1), NONE);
    }

    private void spaceEndsProof() {
        due.part("promise 2");
        SeatProofs x = Plants.chain(2);
        x.safe();
        due.same("space(16)", x.space(16), NONE);
        due.same("rows() after a refusal", x.rows(), 4);
        due.same("space(0)", x.space(0), 2);
        due.same("rows()", x.rows(), 0);
        for (int n = 3; n < 64; n++) {
            x.space(0);
        }
        x.safe();
        due.same("space(3) of 64", x.space(3), FULL);
        due.same("rows() after FULL", x.rows(), 4);
        due.same("check() after FULL", x.check(), 0);
    }

    private void valve() {
        due.part("promise 3");
        SeatProofs x = new SeatProofs();
        x.space(0);
        x.space(0);
        int[][] bad = {
            {-1, 0, 1}, {0, -1, 1}, {2, 0, 1}, {0, 2, 1}, {0, 0, 1}, {1, 1, 2},
            {0, 1, 0}, {0, 1, 3}, {0, 1, -1}, {0, Integer.MAX_VALUE, 1}, {Integer.MIN_VALUE, 0, 1},
        };
        for (int[] b : bad) {
            due.same("valve refused", x.valve(b[0], b[1], b[2], true), NONE);
        }
        for (int n = 0; n < 64; n++) {
            due.same("valve", x.valve(n % 2, 1 - n % 2, 1 + n % 2, n % 3 == 0), n);
        }
        due.same("valve of 64", x.valve(0, 1, 1, false), FULL);
        for (int[] b : bad) {
            due.same("valve refused of 64", x.valve(b[0], b[1], b[2], true), NONE);
        }
    }

    private void valveEndsProof() {
        due.part("promise 3");
        SeatProofs x = Plants.chain(2);
        x.safe();
        due.same("valve(0, 0, 1, true)", x.valve(0, 0, 1, true), NONE);
        due.same("rows() after a refusal", x.rows(), 4);
        for (int n = 1; n < 64; n++) {
            x.safe();
            due.same("valve", x.valve(0, 1, 2, false), n);
            due.same("rows()", x.rows(), 0);
        }
        due.same("safe()", x.safe(), 1);
        due.same("valve of 64", x.valve(0, 1, 1, true), FULL);
        due.same("rows() after FULL", x.rows(), 130);
        due.same("check() after FULL", x.check(), 0);
    }

    private void level() {
        due.part("promise 4");
        SeatProofs x = Plants.chain(2);
        x.safe();
        due.no("level(-1, 0)", x.level(-1, 0));
        due.no("level(2, 0)", x.level(2, 0));
        due.no("level(max, 0)", x.level(Integer.MAX_VALUE, 0));
        due.no("level(min, 0)", x.level(Integer.MIN_VALUE, 0));
        due.same("rows() after refusals", x.rows(), 4);
        due.yes("level(0, 0)", x.level(0, 0));
        due.same("rows() after the same level", x.rows(), 0);
        x.safe();
        due.yes("level(1, max)", x.level(1, Long.MAX_VALUE));
        due.same("rows()", x.rows(), 0);
        due.yes("level(1, min)", x.level(1, Long.MIN_VALUE));
    }

    private void levelHoldsBack() {
        due.part("promise 4");
        long[][] pairs = {{1, 0}, {0, -1}, {Long.MAX_VALUE, Long.MIN_VALUE}, {Long.MIN_VALUE + 1, Long.MIN_VALUE}};
        for (int n = 0; n < 2 * pairs.length; n++) {
            long[] p = pairs[n / 2];
            SeatProofs x = new SeatProofs();
            x.space(1);
            x.space(0);
            x.valve(n % 2, 1 - n % 2, 1, true);
            x.level(0, p[0]);
            x.level(1, p[1]);
            x.safe();
            due.same("flood downwards", x.row(0, 2), 2);
            x.level(0, p[1]);
            x.level(1, p[0]);
            x.safe();
            due.same("flood upwards", x.row(0, 2), 1);
            due.same("no cut upwards", x.row(1, 3), 0);
            x.level(1, p[1]);
            x.safe();
            due.same("flood on one level", x.row(0, 2), 2);
        }
    }

    private void may() {
        due.part("promise 5");
        SeatProofs x = Plants.chain(2);
        x.safe();
        int[][] bad = {{0, 1}, {1, 0}, {16, 1}, {1, 16}, {-1, 2}, {2, -1}, {3, 3}, {33, 2}, {2, Integer.MAX_VALUE}};
        for (int[] b : bad) {
            due.no("may(" + b[0] + ", " + b[1] + ")", x.may(b[0], b[1]));
        }
        due.same("rows() after refusals", x.rows(), 4);
        due.yes("may(1, 15)", x.may(1, 15));
        due.same("rows()", x.rows(), 0);
        x.safe();
        due.no("may(1, 15) again", x.may(1, 15));
        due.no("may(15, 1) again", x.may(15, 1));
        due.same("rows() after refusals", x.rows(), 4);
        x = Plants.chain(1);
        due.same("safe()", x.safe(), 0);
        x.may(1, 3);
        due.same("safe()", x.safe(), 0);
        due.yes("may(2, 1)", x.may(2, 1));
        due.same("safe()", x.safe(), 1);
    }

    private void safe() {
        due.part("promise 6");
        SeatProofs x = new SeatProofs();
        x.space(0);
        x.space(0);
        x.valve(0, 1, 1, true);
        due.same("safe() without liquids", x.safe(), 1);
        due.same("rows() without liquids", x.rows(), 0);
        due.same("check() without liquids", x.check(), 0);
        due.no("set(0, false) without liquids", x.set(0, false));
        x = Plants.chain(1, 1);
        due.same("safe() of two seats in a row", x.safe(), 1);
        due.same("rows()", x.rows(), 6);
        due.same("safe() again", x.safe(), 1);
        due.same("rows() again", x.rows(), 6);
        due.same("safe() of one seat", Plants.chain(1).safe(), 0);
        x = new SeatProofs();
        x.space(7);
        x.space(7);
        x.valve(0, 1, 1, true);
        due.same("safe() of one liquid", x.safe(), 1);
        due.same("rows() of one liquid", x.rows(), 2);
        // With a row dropped a proof may stand over what is not safe: then safe() takes it away.
        x = Plants.chain(1, 1);
        x.safe();
        for (int k = 5; k > 0; k--) {
            x.drop(k);
        }
        due.yes("set(0, true)", x.set(0, true));
        due.same("safe()", x.safe(), 0);
        due.same("rows()", x.rows(), 0);
    }

    /** One valve from liquid 1 to an empty space: how many spaces are flooded without and with its failure. */
    private void floods(int seats, boolean open, boolean unsure, int whole, int failed) {
        SeatProofs x = new SeatProofs();
        x.space(1);
        x.space(0);
        x.valve(0, 1, seats, open);
        x.unsure(0, unsure);
        x.safe();
        String which = "seats " + seats + ", open " + open + ", unsure " + unsure;
        due.same(which + ", whole", x.row(0, 2), whole);
        due.same(which + ", whole, cut", x.row(0, 3), 2 - whole);
        due.same(which + ", failed", x.row(1, 2), failed);
        due.same(which + ", failed, cut", x.row(1, 3), 2 - failed);
    }

    private void lettingThrough() {
        due.part("terms");
        floods(1, true, false, 2, 1);
        floods(2, true, false, 2, 1);
        floods(1, false, false, 1, 2);
        floods(2, false, false, 1, 1);
        floods(1, true, true, 2, 2);
        floods(2, true, true, 2, 2);
        floods(1, false, true, 2, 2);
        floods(2, false, true, 1, 1);
    }

    private void culprit() {
        due.part("promise 7");
        SeatProofs x = Plants.chain(1);
        due.noCulprit(x);
        due.same("safe()", x.safe(), 0);
        due.culpritIs(x, 1, 0, 1, 2);
        due.same("culprit(-1)", x.culprit(-1), NONE);
        due.same("culprit(4)", x.culprit(4), NONE);
        due.same("culprit(max)", x.culprit(Integer.MAX_VALUE), NONE);
        due.same("culprit(min)", x.culprit(Integer.MIN_VALUE), NONE);
        // Downwards only: liquids 9, 5, 7 and 6 all come to space 4, and 3 to space 5.
        x = new SeatProofs();
        int[] liquids = {9, 5, 7, 6, 0, 3};
        for (int l : liquids) {
            x.space(l);
        }
        for (int s = 0; s < 4; s++) {
            x.level(s, 1);
            x.valve(s, 4, 1, true);
        }
        x.level(5, 2);
        x.valve(5, 0, 2, true);
        due.same("safe()", x.safe(), 0);
        due.culpritIs(x, 0, 0, 3, 9);
        x.may(3, 9);
        x.safe();
        due.culpritIs(x, 0, 4, 3, 5);
        x.set(4, false);
        x.safe();
        due.culpritIs(x, 0, 4, 5, 6);
        x.may(5, 6);
        x.safe();
        due.culpritIs(x, 0, 4, 5, 7);
        x.may(5, 7);
        x.safe();
        due.culpritIs(x, 0, 4, 5, 9);
        x.may(5, 9);
        x.safe();
        due.culpritIs(x, 0, 4, 6, 7);
        x.may(6, 7);
        x.may(6, 9);
        x.may(7, 9);
        due.same("safe()", x.safe(), 1);
        due.noCulprit(x);
    }

    private void culpritOfThatSpace() {
        due.part("promise 7");
        // Liquid 3 may meet 5 and 6 in space 0; that it meets 4 in space 1 is not told.
        SeatProofs x = new SeatProofs();
        int[] liquids = {0, 0, 3, 4, 5, 6};
        for (int l : liquids) {
            x.space(l);
        }
        for (int s = 2; s < 6; s++) {
            x.level(s, 1 + s);
        }
        x.valve(2, 0, 1, true);
        x.valve(2, 1, 1, true);
        x.valve(3, 1, 1, true);
        x.valve(4, 0, 1, true);
        x.valve(5, 0, 1, true);
        x.may(3, 5);
        x.may(3, 6);
        due.same("safe()", x.safe(), 0);
        due.culpritIs(x, 0, 0, 5, 6);
        x.may(6, 5);
        due.same("safe()", x.safe(), 0);
        due.culpritIs(x, 0, 1, 3, 4);
    }

    private void culpritIsKept() {
        due.part("promise 7");
        SeatProofs x = Plants.chain(2, 1, 2);
        x.set(0, true);
        x.set(2, true);
        due.same("safe()", x.safe(), 0);
        due.culpritIs(x, 2, 0, 1, 2);
        x.set(1, true);
        x.level(0, 9);
        x.space(1);
        x.may(1, 2);
        x.check();
        due.culpritIs(x, 2, 0, 1, 2);
        due.same("safe()", x.safe(), 1);
        due.noCulprit(x);
    }

    private void rows() {
        due.part("promise 8");
        SeatProofs x = new SeatProofs();
        due.same("rows()", x.rows(), 0);
        x.space(15);
        due.same("rows() before safe()", x.rows(), 0);
        x.safe();
        due.same("rows() without valves", x.rows(), 1);
        x.space(1);
        x.space(1);
        x.valve(0, 1, 2, false);
        x.valve(1, 2, 1, false);
        due.same("rows() after the proof went", x.rows(), 0);
        x.safe();
        due.same("rows()", x.rows(), 6);
        x.valve(0, 2, 1, false);
        due.same("safe()", x.safe(), 0);
        due.same("rows() when it is not safe", x.rows(), 0);
    }

    private void row() {
        due.part("promise 9");
        SeatProofs x = Plants.chain(1, 2, 1);
        x.valve(0, 2, 2, false);
        x.valve(3, 2, 1, true);
        due.same("safe()", x.safe(), 1);
        due.same("rows()", x.rows(), 12);
        due.rowIs(x, 0, 0, 1, 1, 2, 0, 3);
        due.rowIs(x, 1, 0, 2, 2, 2, 1, 3);
        due.rowIs(x, 2, 1, 1, 2, 2, 1, 3);
        due.rowIs(x, 3, 1, 2, 2, 2, 1, 3);
        due.rowIs(x, 4, 2, 1, 1, 2, 0, 3);
        due.rowIs(x, 7, 3, 2, 2, 2, 1, 3);
        due.rowIs(x, 8, 4, 1, 1, 2, 0, 3);
        due.rowIs(x, 10, 5, 1, 1, 2, 0, 3);
        due.rowIs(x, 11, 5, 2, 1, 2, 2, 4);
        due.same("row(-1, 0)", x.row(-1, 0), NONE);
        due.same("row(12, 0)", x.row(12, 0), NONE);
        due.same("row(min, 0)", x.row(Integer.MIN_VALUE, 0), NONE);
        due.same("row(max, 0)", x.row(Integer.MAX_VALUE, 0), NONE);
        due.same("row(0, -1)", x.row(0, -1), NONE);
        due.same("row(0, min)", x.row(0, Integer.MIN_VALUE), NONE);
        due.same("row(0, max)", x.row(0, Integer.MAX_VALUE), NONE);
    }

    private void rowCutByLevel() {
        due.part("promise 9");
        SeatProofs x = Plants.chain(2, 2);
        x.level(1, 1);
        due.same("safe()", x.safe(), 1);
        due.rowIs(x, 0, 0, 1, 1, 0);
        due.rowIs(x, 1, 0, 2, 1, 0);
        x.level(1, -1);
        due.same("safe()", x.safe(), 1);
        due.rowIs(x, 0, 0, 1, 1, 1, 0);
        due.rowIs(x, 1, 0, 2, 1, 1, 1);
    }

    private void check() {
        due.part("promise 10");
        SeatProofs x = new SeatProofs();
        due.same("check() of nothing", x.check(), 0);
        x.space(0);
        due.same("check() without liquids", x.check(), 0);
        x = Plants.chain(2, 1);
        due.same("check() without a proof", x.check(), 1);
        x.safe();
        due.same("check()", x.check(), 0);
        x.set(1, true);
        due.same("check() after set", x.check(), 0);
        x.drop(5);
        due.same("check() without the last row", x.check(), 6);
        x.drop(0);
        due.same("check() without the first row", x.check(), 5);
        due.same("rows() after check()", x.rows(), 4);
        x.safe();
        due.same("check() after safe()", x.check(), 0);
        x = Plants.chain(1);
        x.safe();
        due.same("check() when it is not safe", x.check(), 1);
    }

    private void checkFindsMeeting() {
        due.part("promise 10");
        // Liquid 2's row of the failure 0 is dropped, so that set() sees no two rows share a space.
        SeatProofs x = new SeatProofs();
        x.space(1);
        x.space(2);
        x.valve(0, 1, 2, false);
        x.safe();
        x.drop(1);
        x.drop(2);
        x.drop(1);
        due.same("rows()", x.rows(), 1);
        due.yes("set(0, true)", x.set(0, true));
        due.same("check() of a space that has the other liquid", x.check(), 1);
        x.set(0, false);
        due.same("check() of a missing row", x.check(), 2);
        // The other liquid comes to a space between them that has none.
        x = new SeatProofs();
        x.space(1);
        x.space(0);
        x.space(2);
        x.level(0, 1);
        x.level(2, 1);
        x.valve(0, 1, 2, true);
        x.valve(2, 1, 2, false);
        due.same("safe()", x.safe(), 1);
        due.yes("drop(5)", x.drop(5));
        due.yes("drop(3)", x.drop(3));
        due.yes("drop(0)", x.drop(0));
        due.yes("set(1, true)", x.set(1, true));
        due.same("check() of a space that the other liquid comes to", x.check(), 1);
        due.yes("drop(0)", x.drop(0));
        due.same("check() of rows that hold", x.check(), 3);
    }

    private void set() {
        due.part("promise 11");
        SeatProofs x = Plants.chain(1, 2, 1);
        due.no("set(0, true) without a proof", x.set(0, true));
        x.safe();
        due.rowIs(x, 0, 0, 1, 2, 1, 1);
        due.rowIs(x, 2, 1, 1, 1, 1, 0);
        due.yes("set(0, false)", x.set(0, false));
        due.rowIs(x, 0, 0, 1, 1, 1, 0);
        due.rowIs(x, 2, 1, 1, 2, 1, 1);
        due.rowIs(x, 4, 2, 1, 1, 1, 0);
        due.yes("set(2, true)", x.set(2, true));
        due.rowIs(x, 1, 0, 2, 2, 1, 1);
        due.rowIs(x, 7, 3, 2, 1, 1, 2);
        due.same("check()", x.check(), 0);
        due.same("rows()", x.rows(), 8);
    }

    private void setThrows() {
        due.part("promise 11");
        SeatProofs x = Plants.chain(2);
        x.safe();
        x.set(0, false);
        int[] bad = {-1, 1, 64, Integer.MAX_VALUE, Integer.MIN_VALUE};
        for (int v : bad) {
            due.yes("set(" + v + ", true) throws", Thrown.bySet(x, v, true));
        }
        due.same("rows() after throws", x.rows(), 4);
        due.same("tested() after throws", x.tested(), 4);
        due.same("check() after throws", x.check(), 0);
    }

    private void setEndsProof() {
        due.part("promise 11");
        SeatProofs x = Plants.chain(2);
        x.safe();
        due.no("set(0, true) that lets them meet", x.set(0, true));
        due.same("rows()", x.rows(), 0);
        due.same("tested()", x.tested(), 4);
        due.no("set(0, false) afterwards", x.set(0, false));
        due.same("rows() stay away", x.rows(), 0);
        due.same("culprit(0): safe() answered 1", x.culprit(0), NONE);
        due.same("safe(): the valve is shut again", x.safe(), 1);
        x = Plants.chain(2);
        x.may(2, 1);
        x.safe();
        due.yes("set(0, true) of liquids that may meet", x.set(0, true));
        due.same("check()", x.check(), 0);
        // Only in a failure do they meet.
        x = Plants.chain(1, 1);
        x.safe();
        due.no("set(0, true) with one seat left", x.set(0, true));
        due.same("safe()", x.safe(), 0);
        due.same("culprit(0)", x.culprit(0), 2);
    }

    private void unsure() {
        due.part("promise 12");
        SeatProofs x = Plants.chain(2, 1);
        x.safe();
        int[] bad = {-1, 2, 64, Integer.MAX_VALUE, Integer.MIN_VALUE};
        for (int v : bad) {
            due.yes("unsure(" + v + ", true) throws", Thrown.byUnsure(x, v, true));
            due.yes("unsure(" + v + ", false) throws", Thrown.byUnsure(x, v, false));
        }
        due.no("unsure(1, false)", x.unsure(1, false));
        due.same("rows() after nothing new", x.rows(), 6);
        due.yes("unsure(1, true)", x.unsure(1, true));
        due.same("rows()", x.rows(), 0);
        x.safe();
        due.no("unsure(1, true) again", x.unsure(1, true));
        due.same("rows() after nothing new", x.rows(), 6);
        due.yes("unsure(0, true)", x.unsure(0, true));
        due.yes("unsure(1, false)", x.unsure(1, false));
        x.safe();
        due.yes("unsure(0, false)", x.unsure(0, false));
        due.same("rows()", x.rows(), 0);
    }

    private void unsureLetsThrough() {
        due.part("promise 12");
        SeatProofs x = Plants.chain(1, 1);
        x.unsure(0, true);
        due.same("safe()", x.safe(), 0);
        due.culpritIs(x, 2, 0, 1, 2);
        x.unsure(0, false);
        due.same("safe()", x.safe(), 1);
        x = Plants.chain(2);
        x.unsure(0, true);
        due.same("safe() of two seats, shut", x.safe(), 1);
        due.no("set(0, true): open and unsure", x.set(0, true));
        due.same("safe()", x.safe(), 0);
        due.same("culprit(0)", x.culprit(0), 0);
    }

    private void tested() {
        due.part("promise 13");
        SeatProofs x = Plants.chain(1, 2, 1);
        due.same("tested() before a set()", x.tested(), 0);
        x.safe();
        x.set(0, true);
        // Liquid 1 has an end in each of its four rows, and liquid 2 its row of the failure.
        due.same("tested()", x.tested(), 5);
        x.set(1, false);
        // Space 1 is flooded but when valve 0 shuts; space 2 when valve 2 opens; and the failure 2.
        due.same("tested() of what changes nothing", x.tested(), 5);
        due.yes("set(9) throws", Thrown.bySet(x, 9, true));
        x.check();
        x.rows();
        x.space(0);
        due.same("tested() after other calls", x.tested(), 5);
        x.set(0, false);
        due.same("tested() of set() without a proof", x.tested(), 0);
        x.safe();
        x.drop(0);
        x.set(0, true);
        due.same("tested() without a dropped row", x.tested(), 4);
    }

    private void drop() {
        due.part("promise 14");
        SeatProofs x = Plants.chain(2, 2);
        due.no("drop(0) without a proof", x.drop(0));
        x.safe();
        due.no("drop(-1)", x.drop(-1));
        due.no("drop(6)", x.drop(6));
        due.no("drop(min)", x.drop(Integer.MIN_VALUE));
        due.no("drop(max)", x.drop(Integer.MAX_VALUE));
        due.same("rows() after refusals", x.rows(), 6);
        due.yes("drop(1)", x.drop(1));
        due.same("rows()", x.rows(), 5);
        due.rowIs(x, 0, 0, 1, 1, 1, 0);
        due.rowIs(x, 1, 1, 1, 1, 1, 0);
        due.rowIs(x, 2, 1, 2, 1, 1, 1);
        due.rowIs(x, 4, 2, 2, 1, 1, 1);
        due.no("drop(5)", x.drop(5));
        due.yes("drop(4)", x.drop(4));
        due.rowIs(x, 3, 2, 1, 1, 1, 0);
        due.same("row(4, 0)", x.row(4, 0), NONE);
        for (int n = 4; n > 0; n--) {
            due.yes("drop(0)", x.drop(0));
        }
        due.no("drop(0) of none", x.drop(0));
        due.same("rows() of none", x.rows(), 0);
        due.same("check() of none", x.check(), 1);
        due.no("set(0, false): no proof", x.set(0, false));
        due.same("tested(): no proof", x.tested(), 0);
    }

    private void dropHidesClash() {
        due.part("promise 14");
        SeatProofs x = Plants.chain(2);
        x.safe();
        x.drop(2);
        x.drop(0);
        due.same("rows()", x.rows(), 2);
        due.yes("set(0, true): rows of two failures", x.set(0, true));
        due.same("tested()", x.tested(), 2);
        due.rowIs(x, 0, 0, 2, 2, 0);
        due.rowIs(x, 1, 1, 2, 1, 1, 0);
    }

    private void clear() {
        due.part("promise 15");
        SeatProofs x = Plants.chain(1);
        x.may(4, 5);
        x.clear();
        asNew(x);
        x = Plants.chain(1, 2);
        x.unsure(0, true);
        x.unsure(1, true);
        x.level(0, -5);
        x.level(1, 7);
        x.safe();
        x.set(1, true);
        x.may(1, 2);
        x.safe();
        x.set(0, true);
        x.clear();
        due.same("tested()", x.tested(), 0);
        due.same("rows()", x.rows(), 0);
        due.same("culprit(0)", x.culprit(0), NONE);
        due.same("space(1)", x.space(1), 0);
        due.same("space(0)", x.space(0), 1);
        due.same("space(2)", x.space(2), 2);
        due.same("valve(0, 1, 1, false)", x.valve(0, 1, 1, false), 0);
        due.same("valve(1, 2, 1, false)", x.valve(1, 2, 1, false), 1);
        due.same("safe()", x.safe(), 1);
        due.same("rows()", x.rows(), 6);
        due.rowIs(x, 0, 0, 1, 1, 1, 0);
        due.rowIs(x, 2, 1, 1, 2, 1, 1);
        due.rowIs(x, 5, 2, 2, 2, 1, 0);
        due.no("unsure(0, false)", x.unsure(0, false));
        due.yes("may(1, 2)", x.may(1, 2));
        x = Plants.chain(1);
        x.safe();
        x.clear();
        asNew(x);
    }

    private void clearForgetsEnds() {
        due.part("promise 15");
        SeatProofs x = new SeatProofs();
        for (int s = 0; s < 4; s++) {
            x.space(0);
        }
        x.valve(0, 1, 2, false);
        x.valve(0, 2, 2, false);
        x.clear();
        x.space(3);
        x.space(3);
        x.space(0);
        x.space(0);
        x.valve(2, 3, 2, false);
        x.valve(1, 2, 2, false);
        due.same("safe()", x.safe(), 1);
        due.rowIs(x, 0, 0, 3, 2, 1, 1);
        x.clear();
        x.space(3);
        x.space(0);
        x.space(0);
        x.valve(1, 2, 2, false);
        x.level(2, 1);
        x.valve(0, 1, 2, true);
        due.same("safe()", x.safe(), 1);
        due.rowIs(x, 0, 0, 3, 2, 0);
    }

    private void largest() {
        due.part("limits");
        SeatProofs x = new SeatProofs();
        for (int s = 0; s < 64; s++) {
            x.space(s < 15 ? s + 1 : 0);
        }
        for (int v = 0; v < 63; v++) {
            x.valve(v, v + 1, 2, v > 14);
        }
        x.valve(63, 0, 2, false);
        due.same("safe()", x.safe(), 1);
        due.same("rows()", x.rows(), 975);
        due.rowIs(x, 14, 0, 15, 1, 2, 13, 14);
        due.rowIs(x, 974, 64, 15, 1, 2, 13, 14);
        due.same("check()", x.check(), 0);
        due.yes("set(14, true)", x.set(14, true));
        due.same("tested()", x.tested(), 65 + 14);
        due.rowIs(x, 14, 0, 15, 50, 2, 13, 63);
        due.same("check()", x.check(), 0);
        due.yes("drop(974)", x.drop(974));
        due.same("check()", x.check(), 975);
        due.yes("drop(0)", x.drop(0));
        due.rowIs(x, 13, 0, 15, 50, 2, 13, 63);
        due.no("set(63, true): all round", x.set(63, true));
    }
}
