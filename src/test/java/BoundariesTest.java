/**
 * Each sentence of the document that names a boundary case, in the document's order: limits, what
 * is empty, what is full, what is not there. That refused calls change nothing is RefusalsTest's.
 */
public final class BoundariesTest {
    private static final int NONE = SeatProofs.NONE;
    private static final int FULL = SeatProofs.FULL;
    private static final int LEAST = Integer.MIN_VALUE;
    private static final int GREATEST = Integer.MAX_VALUE;

    private final Due due = new Due();

    public static void main(String[] args) {
        BoundariesTest t = new BoundariesTest();
        t.atMost64Spaces();
        t.space63IsAsOthers();
        t.liquids1To15OrNone();
        t.levelIs0AtFirst();
        t.atMost64Valves();
        t.valve63IsAsOthers();
        t.failure64();
        t.twoSeatsShutFailing();
        t.unsureUnlessTwoSeatsShut();
        t.levelNotAbove();
        t.levelsFarApart();
        t.oneLiquidTwice();
        t.cutNeedsOneEndInTheFlood();
        t.newObject();
        t.spaceEndsTheProof();
        t.valveEndsTheProof();
        t.levelEndsTheProof();
        t.mayEndsTheProof();
        t.noProofWithoutLiquids();
        t.unsafeWithoutProof();
        t.culpritBeforeSafe();
        t.culpritWhenSafe();
        t.culpritOfAnotherWhat();
        t.culpritPairOfSeveral();
        t.rowsWithoutProof();
        t.rowThatIsNotThere();
        t.rowPartThatIsNotThere();
        t.largestCut();
        t.largestFlood();
        t.mostRows();
        t.checkWithoutProof();
        t.checkOfAMissingRow();
        t.checkOfTheFirstWrongRow();
        t.checkPrefersAWrongRow();
        t.setWithoutProof();
        t.setEndsTheProof();
        t.setLastValve();
        t.unsureEndsTheProof();
        t.testedWithoutProof();
        t.testedKeepsOffThrown();
        t.testedOfNoRow();
        t.dropLastRow();
        t.dropOnlyRow();
        t.clearOfFull();
        t.clearTakesEverything();
        t.due.end();
    }

    private void atMost64Spaces() {
        due.part("terms: spaces have numbers from 0 on, at most 64");
        SeatProofs x = new SeatProofs();
        for (int n = 0; n < 64; n++) {
            due.same("space", x.space(n % 16), n);
        }
        for (int n = 0; n < 16; n++) {
            due.same("space(" + n + ") of 64", x.space(n), FULL);
        }
    }

    private void space63IsAsOthers() {
        due.part("terms: the last of 64 spaces");
        SeatProofs x = Plants.dry(63);
        due.no("level(63, 1) of 63", x.level(63, 1));
        due.same("valve(63, 0, 1, true) of 63", x.valve(63, 0, 1, true), NONE);
        due.same("space(9)", x.space(9), 63);
        due.yes("level(63, 1)", x.level(63, 1));
        due.same("valve(63, 0, 1, true)", x.valve(63, 0, 1, true), 0);
        due.same("valve(62, 63, 1, false)", x.valve(62, 63, 1, false), 1);
        due.same("safe()", x.safe(), 1);
        due.rowIs(x, 0, 0, 9, 2, 1, 1);
        due.rowIs(x, 1, 1, 9, 1, 2, 0, 1);
        due.rowIs(x, 2, 2, 9, 3, 0);
        x = Plants.dry(61);
        x.space(4);
        x.space(5);
        x.space(0);
        x.level(63, -1);
        x.valve(61, 63, 1, true);
        x.valve(62, 63, 1, true);
        due.same("safe()", x.safe(), 0);
        due.culpritIs(x, 0, 63, 4, 5);
    }

    private void liquids1To15OrNone() {
        due.part("terms: each has a liquid, 1 .. 15, or none (0)");
        for (int liquid = 0; liquid < 16; liquid++) {
            SeatProofs x = new SeatProofs();
            due.same("space(" + liquid + ")", x.space(liquid), 0);
            due.same("safe()", x.safe(), 1);
            due.same("rows() of liquid " + liquid, x.rows(), liquid == 0 ? 0 : 1);
            due.same("row(0, 1)", x.row(0, 1), liquid == 0 ? NONE : liquid);
            due.same("check()", x.check(), 0);
        }
        SeatProofs x = Plants.of(0, 15);
        x.valve(0, 1, 1, true);
        due.same("safe(): none meets nothing", x.safe(), 1);
    }

    private void levelIs0AtFirst() {
        due.part("terms: a level, 0 at first");
        long[] heights = {-1, 0, 1};
        int[] floods = {1, 2, 2};
        for (int n = 0; n < 3; n++) {
            SeatProofs x = Plants.of(1, 0);
            x.valve(0, 1, 1, true);
            x.level(0, heights[n]);
            x.safe();
            due.same("flood from level " + heights[n], x.row(0, 2), floods[n]);
        }
    }

    private void atMost64Valves() {
        due.part("terms: valves have numbers from 0 on, at most 64");
        SeatProofs x = Plants.dry(2);
        for (int n = 0; n < 64; n++) {
            due.same("valve", x.valve(n % 2, 1 - n % 2, 1 + n % 2, n % 3 == 0), n);
        }
        for (int seats = 1; seats < 3; seats++) {
            due.same("valve of 64, open", x.valve(0, 1, seats, true), FULL);
            due.same("valve of 64, shut", x.valve(1, 0, seats, false), FULL);
        }
    }

    /** 63 shut valves with two seats between liquids 1 and 2, and one more. */
    private static SeatProofs manyBetween(int seatsOfTheLast) {
        SeatProofs x = Plants.of(1, 2);
        for (int v = 0; v < 63; v++) {
            x.valve(0, 1, 2, false);
        }
        x.valve(0, 1, seatsOfTheLast, false);
        return x;
    }

    private void valve63IsAsOthers() {
        due.part("terms: the last of 64 valves");
        SeatProofs x = manyBetween(2);
        due.same("safe()", x.safe(), 1);
        due.yes("unsure(63, true)", x.unsure(63, true));
        due.no("unsure(63, true) again", x.unsure(63, true));
        due.same("safe()", x.safe(), 1);
        due.no("set(63, true)", x.set(63, true));
        due.same("tested()", x.tested(), 130);
        due.same("safe()", x.safe(), 0);
        due.culpritIs(x, 0, 0, 1, 2);
        x.set(63, false);
        due.same("safe()", x.safe(), 1);
    }

    private void failure64() {
        due.part("terms: failures are told by numbers: 0 none, 1 + v that valve v fails");
        SeatProofs x = manyBetween(1);
        due.same("safe()", x.safe(), 0);
        due.culpritIs(x, 64, 0, 1, 2);
        x.may(1, 2);
        due.same("safe()", x.safe(), 1);
        due.same("row(0, 0)", x.row(0, 0), 0);
        due.same("row(129, 0)", x.row(129, 0), 64);
        due.same("row(127, 2)", x.row(127, 2), 1);
        due.same("row(128, 2)", x.row(128, 2), 2);
        due.same("row(129, 2)", x.row(129, 2), 2);
        x = Plants.of(1);
        x.safe();
        due.rowIs(x, 0, 0, 1, 1, 0);
        due.same("rows() without valves: the failure 0 alone", x.rows(), 1);
    }

    /** What liquid 1 floods over one valve to an empty space, when none fails and when it does. */
    private void floodsAre(int seats, boolean open, boolean unsure, int whole, int failed) {
        SeatProofs x = Plants.of(1, 0);
        x.valve(0, 1, seats, open);
        x.unsure(0, unsure);
        x.safe();
        due.same("flood, seats " + seats + ", open " + open, x.row(0, 2), whole);
        due.same("flood, failing, seats " + seats + ", open " + open, x.row(1, 2), failed);
    }

    private void twoSeatsShutFailing() {
        due.part("terms: two seats, shut and failing, lets nothing through still");
        floodsAre(2, false, false, 1, 1);
        floodsAre(1, false, false, 1, 2);
        floodsAre(2, true, false, 2, 1);
        floodsAre(1, true, false, 2, 1);
    }

    private void unsureUnlessTwoSeatsShut() {
        due.part("terms: unsure lets through, also when it fails, unless it has two seats and is shut");
        floodsAre(2, false, true, 1, 1);
        floodsAre(1, false, true, 2, 2);
        floodsAre(2, true, true, 2, 2);
        floodsAre(1, true, true, 2, 2);
    }

    /** Whether liquid 1 comes to another space over an open valve, whichever of its ends is which. */
    private void comes(long from, long to, boolean want) {
        for (int end = 0; end < 2; end++) {
            SeatProofs x = Plants.of(1, 0);
            x.level(0, from);
            x.level(1, to);
            x.valve(end, 1 - end, 1, true);
            x.safe();
            due.same("flood from level " + from + " to " + to, x.row(0, 2), want ? 2 : 1);
        }
    }

    private void levelNotAbove() {
        due.part("terms: if the level there is not above");
        long[] heights = {Long.MIN_VALUE, -1, 0, 1, 1L << 32, Long.MAX_VALUE};
        for (long h : heights) {
            comes(h, h, true);
            if (h != Long.MAX_VALUE) {
                comes(h, h + 1, false);
                comes(h + 1, h, true);
            }
        }
    }

    private void levelsFarApart() {
        due.part("terms: levels whose difference no long holds");
        comes(Long.MAX_VALUE, Long.MIN_VALUE, true);
        comes(Long.MIN_VALUE, Long.MAX_VALUE, false);
        comes(0, Long.MIN_VALUE, true);
        comes(-2, Long.MAX_VALUE, false);
        comes(1L << 32, 1, true);
        comes(0, 1L << 32, false);
    }

    private void oneLiquidTwice() {
        due.part("terms: two different liquids meet");
        SeatProofs x = Plants.of(8, 8);
        x.valve(0, 1, 1, true);
        due.same("safe() of one liquid", x.safe(), 1);
        due.same("rows()", x.rows(), 2);
        due.rowIs(x, 1, 1, 8, 2, 0);
    }

    private void cutNeedsOneEndInTheFlood() {
        due.part("terms: the cut has one end in the flood and the other one not in it");
        SeatProofs x = Plants.of(1, 0, 0, 0, 1);
        x.valve(0, 1, 1, true);
        x.valve(1, 0, 2, false);
        x.valve(2, 3, 2, false);
        x.valve(0, 4, 2, false);
        x.valve(1, 2, 2, false);
        x.valve(2, 4, 2, false);
        x.level(3, -1);
        due.same("safe()", x.safe(), 1);
        due.rowIs(x, 0, 0, 1, 3, 2, 4, 5);
        x.level(2, 1);
        x.safe();
        due.rowIs(x, 0, 0, 1, 3, 0);
        x.level(4, 1);
        x.safe();
        due.rowIs(x, 0, 0, 1, 3, 1, 5);
    }

    private void newObject() {
        due.part("promise 1: no spaces, no valves; no liquids may meet; no proof");
        SeatProofs x = new SeatProofs();
        due.noProof(x);
        due.noCulprit(x);
        due.same("tested()", x.tested(), 0);
        due.same("check()", x.check(), 0);
        due.no("level(0, 0)", x.level(0, 0));
        due.same("valve(0, 1, 1, true)", x.valve(0, 1, 1, true), NONE);
        due.yes("set(0, true) throws", Thrown.bySet(x, 0, true));
        due.yes("unsure(0, true) throws", Thrown.byUnsure(x, 0, true));
        for (int p = 1; p < 16; p++) {
            for (int q = 1; q < p; q++) {
                due.yes("may(" + p + ", " + q + ")", x.may(p, q));
            }
        }
    }

    private void spaceEndsTheProof() {
        due.part("promise 2: the proof goes");
        for (int liquid = 0; liquid < 16; liquid++) {
            SeatProofs x = Plants.of(3);
            x.safe();
            due.same("rows()", x.rows(), 1);
            due.same("space(" + liquid + ")", x.space(liquid), 1);
            due.noProof(x);
        }
    }

    private void valveEndsTheProof() {
        due.part("promise 3: the proof goes");
        for (int n = 0; n < 4; n++) {
            SeatProofs x = Plants.of(3, 0);
            x.safe();
            due.same("rows()", x.rows(), 1);
            due.same("valve", x.valve(0, 1, 1 + n / 2, n % 2 == 0), 0);
            due.noProof(x);
        }
    }

    private void levelEndsTheProof() {
        due.part("promise 4: true, and the proof goes");
        long[] heights = {0, 1, -1, Long.MIN_VALUE, Long.MAX_VALUE};
        for (long h : heights) {
            SeatProofs x = Plants.of(3, 0);
            x.safe();
            due.same("rows()", x.rows(), 1);
            due.yes("level(1, " + h + ")", x.level(1, h));
            due.noProof(x);
        }
    }

    private void mayEndsTheProof() {
        due.part("promise 5: true, and the proof goes");
        for (int other = 2; other < 16; other++) {
            SeatProofs x = Plants.of(3, 0);
            x.safe();
            due.same("rows()", x.rows(), 1);
            due.yes("may(1, " + other + ")", x.may(1, other));
            due.noProof(x);
        }
    }

    private void noProofWithoutLiquids() {
        due.part("promise 6: a proof from now on (none when no space has a liquid)");
        SeatProofs x = new SeatProofs();
        due.same("safe() of nothing", x.safe(), 1);
        due.noProof(x);
        x = Plants.dry(3);
        due.same("safe() without valves", x.safe(), 1);
        due.noProof(x);
        x.valve(0, 1, 1, true);
        x.valve(1, 2, 1, false);
        due.same("safe() without liquids", x.safe(), 1);
        due.noProof(x);
        due.same("check()", x.check(), 0);
        due.no("set(1, true)", x.set(1, true));
        due.same("tested()", x.tested(), 0);
        due.noCulprit(x);
    }

    private void unsafeWithoutProof() {
        due.part("promise 6: 0 when it is not, without one");
        SeatProofs x = Plants.chain(1);
        due.same("safe()", x.safe(), 0);
        due.noProof(x);
        // A proof that still stands, since rows were dropped, must go too.
        x = Plants.chain(2);
        x.safe();
        x.drop(3);
        x.drop(1);
        due.yes("set(0, true)", x.set(0, true));
        due.same("rows()", x.rows(), 2);
        due.same("safe()", x.safe(), 0);
        due.noProof(x);
    }

    private void culpritBeforeSafe() {
        due.part("promise 7: NONE otherwise, before safe()");
        SeatProofs x = Plants.chain(1);
        due.noCulprit(x);
        x.set(0, true);
        x.check();
        due.noCulprit(x);
    }

    private void culpritWhenSafe() {
        due.part("promise 7: NONE otherwise, when the last safe() answered 1");
        SeatProofs x = Plants.chain(1);
        due.same("safe()", x.safe(), 0);
        due.culpritIs(x, 1, 0, 1, 2);
        x.may(1, 2);
        due.same("safe()", x.safe(), 1);
        due.noCulprit(x);
        x = Plants.chain(2);
        due.same("safe()", x.safe(), 1);
        due.no("set(0, true)", x.set(0, true));
        due.noCulprit(x);
    }

    private void culpritOfAnotherWhat() {
        due.part("promise 7: NONE for another what");
        SeatProofs x = Plants.chain(1);
        x.safe();
        int[] others = {-1, 4, 5, -4, 256, 65536, LEAST, GREATEST};
        for (int what : others) {
            due.same("culprit(" + what + ")", x.culprit(what), NONE);
        }
        due.culpritIs(x, 1, 0, 1, 2);
    }

    private void culpritPairOfSeveral() {
        due.part("promise 7: of several pairs that with the least less, then the least greater");
        // 2, 3, 14 and 15 are in space 0; 2 may meet 3 and 14.
        SeatProofs x = Plants.of(0, 15, 14, 3, 2);
        for (int s = 1; s < 5; s++) {
            x.level(s, s);
            x.valve(s, 0, 1, true);
        }
        x.may(2, 3);
        x.may(14, 2);
        x.safe();
        due.culpritIs(x, 0, 0, 2, 15);
        x.may(15, 2);
        x.safe();
        due.culpritIs(x, 0, 0, 3, 14);
        x.may(3, 14);
        x.may(3, 15);
        x.safe();
        due.culpritIs(x, 0, 0, 14, 15);
    }

    private void rowsWithoutProof() {
        due.part("promise 8: 0 without one");
        SeatProofs x = Plants.chain(2);
        due.same("rows() before safe()", x.rows(), 0);
        x.safe();
        due.same("rows()", x.rows(), 4);
        x.set(0, true);
        due.same("rows() after set()", x.rows(), 0);
        x.set(0, false);
        due.same("rows() after set() again", x.rows(), 0);
        x.safe();
        due.same("rows() after safe()", x.rows(), 4);
        x.unsure(0, true);
        due.same("rows() after unsure()", x.rows(), 0);
    }

    private void rowThatIsNotThere() {
        due.part("promise 9: NONE when there is no such row");
        SeatProofs x = Plants.chain(2);
        int[] wrong = {-1, 4, 5, 64, 974, 975, 976, 65536, -65536, LEAST, GREATEST};
        for (int i = 0; i < 5; i++) {
            due.same("row(0, " + i + ") without a proof", x.row(0, i), NONE);
        }
        x.safe();
        for (int k : wrong) {
            for (int i = 0; i < 5; i++) {
                due.same("row(" + k + ", " + i + ")", x.row(k, i), NONE);
            }
        }
        due.rowIs(x, 3, 1, 2, 1, 1, 0);
        x.drop(0);
        due.same("row(3, 0) after drop", x.row(3, 0), NONE);
        due.rowIs(x, 2, 1, 2, 1, 1, 0);
    }

    private void rowPartThatIsNotThere() {
        due.part("promise 9: NONE when there is no such i");
        SeatProofs x = Plants.chain(2);
        x.may(1, 2);
        x.safe();
        int[] wrong = {-1, 5, 6, 67, 68, -4, 256, 65536, LEAST, LEAST + 1, LEAST + 3, LEAST + 4, GREATEST};
        for (int i : wrong) {
            due.same("row(0, " + i + ")", x.row(0, i), NONE);
        }
        due.same("row(0, 4)", x.row(0, 4), 0);
        x.set(0, true);
        due.same("row(0, 3) of an empty cut", x.row(0, 3), 0);
        due.same("row(0, 4) of an empty cut", x.row(0, 4), NONE);
    }

    private void largestCut() {
        due.part("promise 9: a cut of all 64 valves");
        SeatProofs x = manyBetween(2);
        x.safe();
        due.same("row(0, 3)", x.row(0, 3), 64);
        for (int v = 0; v < 64; v++) {
            due.same("row(0, " + (4 + v) + ")", x.row(0, 4 + v), v);
        }
        due.same("row(0, 68)", x.row(0, 68), NONE);
        due.same("check()", x.check(), 0);
    }

    private void largestFlood() {
        due.part("promise 9: a flood of all 64 spaces");
        SeatProofs x = Plants.dry(63);
        x.space(15);
        for (int s = 0; s < 63; s++) {
            x.valve(s, s + 1, 1, true);
        }
        x.valve(63, 0, 2, false);
        x.safe();
        due.rowIs(x, 0, 0, 15, 64, 0);
        due.rowIs(x, 1, 1, 15, 63, 2, 0, 63);
        due.rowIs(x, 63, 63, 15, 1, 2, 62, 63);
        due.rowIs(x, 64, 64, 15, 64, 0);
        x.level(0, 1);
        x.safe();
        due.rowIs(x, 0, 0, 15, 63, 0);
    }

    private void mostRows() {
        due.part("promise 8: 65 failures and 15 liquids");
        SeatProofs x = new SeatProofs();
        for (int l = 15; l > 0; l--) {
            x.space(l);
        }
        for (int v = 0; v < 64; v++) {
            x.valve(v % 15, (v + 1) % 15, 2, false);
        }
        due.same("safe()", x.safe(), 1);
        due.same("rows()", x.rows(), 975);
        due.same("row(974, 0)", x.row(974, 0), 64);
        due.same("row(974, 1)", x.row(974, 1), 15);
        due.same("row(960, 0)", x.row(960, 0), 64);
        due.same("row(960, 1)", x.row(960, 1), 1);
        due.same("row(959, 0)", x.row(959, 0), 63);
        due.same("row(975, 0)", x.row(975, 0), NONE);
        due.same("check()", x.check(), 0);
        due.no("drop(975)", x.drop(975));
        due.yes("drop(974)", x.drop(974));
        due.same("rows()", x.rows(), 974);
        due.same("check()", x.check(), 975);
        due.same("safe()", x.safe(), 1);
        due.same("rows()", x.rows(), 975);
    }

    private void checkWithoutProof() {
        due.part("promise 10: 1 + rows() when none is wrong, but one is missing, without a proof");
        SeatProofs x = new SeatProofs();
        due.same("check() of nothing", x.check(), 0);
        x.space(0);
        due.same("check() without liquids", x.check(), 0);
        x.space(15);
        due.same("check() without a proof", x.check(), 1);
        x.safe();
        due.same("check() with one", x.check(), 0);
        x.level(0, 1);
        due.same("check() when it went", x.check(), 1);
    }

    private void checkOfAMissingRow() {
        due.part("promise 10: 1 + rows() when none is wrong, but one is missing");
        for (int k = 0; k < 4; k++) {
            SeatProofs x = Plants.chain(2);
            x.safe();
            due.same("check()", x.check(), 0);
            x.drop(k);
            due.same("check() without row " + k, x.check(), 4);
        }
    }

    /** Liquid 1's rows alone, for the failures 0, 1 and 2, with two valves to liquid 2's space. */
    private static SeatProofs halfProof() {
        SeatProofs x = Plants.chain(2);
        x.valve(0, 1, 2, false);
        x.safe();
        x.drop(5);
        x.drop(3);
        x.drop(1);
        return x;
    }

    private void checkOfTheFirstWrongRow() {
        due.part("promise 10: 1 + k for the first row k that is not");
        SeatProofs x = halfProof();
        due.yes("set(0, true)", x.set(0, true));
        due.same("rows()", x.rows(), 3);
        due.same("check(): row 0 has liquid 2 in it", x.check(), 1);
        x.drop(0);
        // When valve 0 fails it is shut, so that row holds; the next one does not.
        due.same("check(): row 1 has liquid 2 in it", x.check(), 2);
        x.drop(1);
        due.same("check(): no row is wrong, five are missing", x.check(), 2);
    }

    private void checkPrefersAWrongRow() {
        due.part("promise 10: a wrong row is told before a missing one");
        SeatProofs x = halfProof();
        x.drop(0);
        due.yes("set(1, true)", x.set(1, true));
        due.same("check() of a wrong one", x.check(), 1);
        x.set(1, false);
        due.same("check() of a missing one", x.check(), 3);
    }

    private void setWithoutProof() {
        due.part("promise 11: whether there is a proof then, without one");
        SeatProofs x = Plants.chain(2);
        due.no("set(0, true)", x.set(0, true));
        due.same("tested()", x.tested(), 0);
        due.same("safe(): it is open", x.safe(), 0);
        due.no("set(0, false)", x.set(0, false));
        due.same("rows()", x.rows(), 0);
        due.same("safe(): it is shut", x.safe(), 1);
        due.yes("set(0, false) with one", x.set(0, false));
    }

    private void setEndsTheProof() {
        due.part("promise 11: otherwise it goes");
        SeatProofs x = Plants.chain(2);
        x.safe();
        due.no("set(0, true)", x.set(0, true));
        due.noProof(x);
        // Rows of different failures may share a space.
        x = Plants.chain(2);
        x.safe();
        x.drop(2);
        x.drop(0);
        due.yes("set(0, true) with liquid 2's rows", x.set(0, true));
        due.same("rows()", x.rows(), 2);
        x = Plants.chain(2);
        x.safe();
        x.drop(3);
        due.no("set(0, true) with both rows of failure 0", x.set(0, true));
        due.noProof(x);
        x = Plants.chain(2);
        x.safe();
        x.drop(0);
        due.yes("set(0, true) with both rows of failure 1", x.set(0, true));
        due.same("rows()", x.rows(), 3);
    }

    private void setLastValve() {
        due.part("promise 11: an index that no valve has is thrown");
        SeatProofs x = Plants.dry(2);
        for (int n = 0; n < 64; n++) {
            due.yes("set(" + n + ") of " + n + " throws", Thrown.bySet(x, n, true));
            due.yes("unsure(" + n + ") of " + n + " throws", Thrown.byUnsure(x, n, true));
            x.valve(0, 1, 1, false);
            due.no("set(" + n + ")", Thrown.bySet(x, n, true));
            due.no("unsure(" + n + ")", Thrown.byUnsure(x, n, true));
        }
        due.yes("set(64) throws", Thrown.bySet(x, 64, true));
        due.yes("unsure(64) throws", Thrown.byUnsure(x, 64, true));
        due.yes("set(-1) throws", Thrown.bySet(x, -1, true));
        due.yes("unsure(-1) throws", Thrown.byUnsure(x, -1, true));
        x.clear();
        due.yes("set(0) of none throws", Thrown.bySet(x, 0, true));
        due.yes("unsure(0) of none throws", Thrown.byUnsure(x, 0, true));
    }

    private void unsureEndsTheProof() {
        due.part("promise 12: whether that is new; then the proof goes");
        SeatProofs x = Plants.chain(2);
        x.safe();
        due.no("unsure(0, false): it is not", x.unsure(0, false));
        due.same("rows()", x.rows(), 4);
        due.yes("unsure(0, true)", x.unsure(0, true));
        due.noProof(x);
        x.safe();
        due.no("unsure(0, true): it is", x.unsure(0, true));
        due.same("rows()", x.rows(), 4);
        due.yes("unsure(0, false)", x.unsure(0, false));
        due.noProof(x);
        due.yes("unsure(0, true) without a proof", x.unsure(0, true));
    }

    private void testedWithoutProof() {
        due.part("promise 13: 0 when there was no proof");
        SeatProofs x = Plants.chain(2);
        due.same("tested() before set()", x.tested(), 0);
        x.set(0, false);
        due.same("tested()", x.tested(), 0);
        x.safe();
        due.same("tested() after safe()", x.tested(), 0);
        x.set(0, false);
        due.same("tested() with a proof", x.tested(), 4);
        x.level(0, 0);
        due.same("tested() when the proof went later", x.tested(), 4);
        x.set(0, false);
        due.same("tested() without a proof again", x.tested(), 0);
        x.safe();
        x.set(0, true);
        due.same("tested() when the proof went by it", x.tested(), 4);
        x.set(0, true);
        due.same("tested() once more", x.tested(), 0);
    }

    private void testedKeepsOffThrown() {
        due.part("promise 13: the last set() that was not thrown");
        SeatProofs x = Plants.chain(2);
        x.safe();
        x.set(0, false);
        int[] wrong = {-1, 1, 64, LEAST, GREATEST};
        for (int v : wrong) {
            due.yes("set(" + v + ") throws", Thrown.bySet(x, v, true));
            due.same("tested()", x.tested(), 4);
        }
    }

    private void testedOfNoRow() {
        due.part("promise 13: how many rows were made anew, none of a proof");
        SeatProofs x = Plants.of(1, 0, 0);
        x.valve(1, 2, 1, false);
        x.safe();
        due.yes("set(0, true)", x.set(0, true));
        due.same("tested(): the row of its failure", x.tested(), 1);
        x.drop(1);
        due.yes("set(0, false)", x.set(0, false));
        due.same("tested(): none is touched", x.tested(), 0);
        due.same("rows()", x.rows(), 1);
        // One end in the flood is enough, whichever it is.
        x = Plants.of(1, 0);
        x.valve(0, 1, 2, false);
        x.valve(1, 0, 2, false);
        x.safe();
        x.set(0, false);
        due.same("tested(): the first end", x.tested(), 3);
        x.set(1, false);
        due.same("tested(): the second end", x.tested(), 3);
    }

    private void dropLastRow() {
        due.part("promise 14: those behind come one forward");
        SeatProofs x = Plants.chain(2);
        x.safe();
        due.yes("drop(3), the last", x.drop(3));
        due.no("drop(3) again", x.drop(3));
        due.rowIs(x, 2, 1, 1, 1, 1, 0);
        due.yes("drop(0), the first", x.drop(0));
        due.rowIs(x, 0, 0, 2, 1, 1, 0);
        due.rowIs(x, 1, 1, 1, 1, 1, 0);
        due.same("rows()", x.rows(), 2);
    }

    private void dropOnlyRow() {
        due.part("promise 14: without rows there is no proof");
        SeatProofs x = Plants.of(6, 0);
        x.valve(0, 1, 1, false);
        x.safe();
        due.yes("drop(1)", x.drop(1));
        due.yes("set(0, false) with one row", x.set(0, false));
        due.same("tested()", x.tested(), 1);
        due.yes("drop(0)", x.drop(0));
        due.noProof(x);
        due.no("set(0, false) without rows", x.set(0, false));
        due.same("tested()", x.tested(), 0);
        due.same("check()", x.check(), 1);
        due.same("safe()", x.safe(), 1);
        due.same("rows()", x.rows(), 2);
    }

    private void clearOfFull() {
        due.part("promise 15: all as at first, of 64 spaces and 64 valves");
        SeatProofs x = manyBetween(1);
        for (int s = 2; s < 64; s++) {
            x.space(3);
        }
        due.same("space(1)", x.space(1), FULL);
        due.same("valve(0, 1, 1, true)", x.valve(0, 1, 1, true), FULL);
        due.same("safe()", x.safe(), 0);
        x.clear();
        due.noCulprit(x);
        due.same("check()", x.check(), 0);
        due.same("safe()", x.safe(), 1);
        for (int s = 0; s < 64; s++) {
            due.same("space(0)", x.space(0), s);
        }
        for (int v = 0; v < 64; v++) {
            due.same("valve(0, 63, 1, true)", x.valve(0, 63, 1, true), v);
        }
        due.same("safe() without liquids", x.safe(), 1);
        due.same("rows()", x.rows(), 0);
        due.same("space(1)", x.space(1), FULL);
        due.same("valve(0, 1, 1, true)", x.valve(0, 1, 1, true), FULL);
    }

    private void clearTakesEverything() {
        due.part("promise 15: all as at first");
        SeatProofs x = Plants.chain(2);
        x.unsure(0, true);
        x.level(0, 5);
        x.level(1, 5);
        x.safe();
        x.set(0, false);
        x.clear();
        due.noProof(x);
        due.same("tested()", x.tested(), 0);
        due.no("level(0, 1)", x.level(0, 1));
        due.yes("set(0, true) throws", Thrown.bySet(x, 0, true));
        due.yes("unsure(0, true) throws", Thrown.byUnsure(x, 0, true));
        due.same("space(1)", x.space(1), 0);
        due.same("space(0)", x.space(0), 1);
        due.same("valve(0, 1, 1, false)", x.valve(0, 1, 1, false), 0);
        due.yes("unsure(0, true)", x.unsure(0, true));
        due.yes("unsure(0, false)", x.unsure(0, false));
        x.safe();
        due.rowIs(x, 0, 0, 1, 1, 1, 0);
        due.rowIs(x, 1, 1, 1, 2, 0);
        x.level(1, 1);
        x.safe();
        due.rowIs(x, 0, 0, 1, 1, 0);
        due.rowIs(x, 1, 1, 1, 1, 0);
        x.may(1, 2);
        x.clear();
        due.yes("may(1, 2) again", x.may(1, 2));
        x.clear();
        x.clear();
        due.same("safe() of nothing", x.safe(), 1);
        due.noProof(x);
    }
}
