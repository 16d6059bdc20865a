import java.io.IOException;
import java.nio.file.Files;
import java.nio.file.Path;
import java.util.ArrayList;
import java.util.List;

/**
 * A test for each sentence of the document's Terms and promises, under the sentence's own words. At
 * the end these words are held against the document, so that no sentence is left without a test.
 */
public final class SentencesTest {
    private static final int NONE = SeatProofs.NONE;
    private static final int FULL = SeatProofs.FULL;
    private static final int LEAST = Integer.MIN_VALUE;
    private static final int GREATEST = Integer.MAX_VALUE;
    /** Of two valves. */
    private static final int[] NO_VALVES = {-1, 2, 3, 63, 64, 65536, LEAST, GREATEST};
    private static final Path DOCUMENT = Path.of("../shared/DOC.md");

    private final Due due = new Due();
    private final List<String> tested = new ArrayList<>();

    public static void main(String[] args) throws IOException {
        SentencesTest t = new SentencesTest();
        for (Runnable test : t.tests()) {
            t.run(test);
        }
        t.noSentenceIsLeftOut();
        t.due.end();
    }

    /** In the document's order. */
    private Runnable[] tests() {
        return new Runnable[] {
            this::termSpaces, this::termValves, this::termSomePairsMayMeet, this::termFailure,
            this::termTwoSeatsShutFailing, this::termLetsThrough, this::termComes, this::termMeet,
            this::termFailureNumbers, this::termSafe, this::termProof, this::termFloodAndCut,
            this::termTouched,
            this::newObject, this::spaceNumber, this::spaceRefused, this::spaceEndsTheProof,
            this::valveNumber, this::valveRefused, this::valveEndsTheProof, this::levelOfASpace,
            this::levelRefused, this::mayMeet, this::mayRefused, this::safe, this::culprit,
            this::culpritNone, this::rows, this::row, this::rowNone, this::check,
            this::setOpensOrShuts, this::setMakesRowsAnew, this::setAnswers, this::setThrows,
            this::unsure, this::unsureThrows, this::testedRows, this::drop, this::dropRefused,
            this::clear,
        };
    }

    /** A test that is cut off by an exception must not keep the others from being run. */
    private void run(Runnable test) {
        try {
            test.run();
        } catch (RuntimeException e) {
            due.alike("a call", "threw " + e, "no exception");
        }
    }

    private void sentence(String section, String words) {
        String whole = section + ": " + words;
        tested.add(whole);
        due.part(whole);
    }

    private void noSentenceIsLeftOut() throws IOException {
        due.part("the document");
        if (!Files.isReadable(DOCUMENT)) {
            System.out.println(DOCUMENT + " is not here, so the sentences were not held against it");
            return;
        }
        due.alike("the sentences tested", String.join("\n", tested), String.join("\n", documentSentences()));
    }

    private static List<String> documentSentences() throws IOException {
        List<String> sentences = new ArrayList<>();
        String section = "";
        for (String line : Files.readAllLines(DOCUMENT)) {
            if (line.startsWith("## ")) {
                section = line.substring(3).split(":")[0];
            } else if (!line.isEmpty() && (section.equals("Terms") || section.startsWith("Promise "))) {
                String text = line.replaceFirst("^`[^`]*`: ", "");
                for (String words : text.split("(?<=[.]) (?=[A-Z])")) {
                    sentences.add(section + ": " + words);
                }
            }
        }
        return sentences;
    }

    /** How many spaces liquid 1 floods from the first of two spaces, over one valve, in each failure. */
    private void floodsAre(int seats, boolean open, boolean unsure, int whole, int failed) {
        SeatProofs x = Plants.of(1, 0, 0);
        x.valve(0, 1, seats, open);
        x.valve(2, 1, 2, false);
        x.unsure(0, unsure);
        x.safe();
        String which = "flood over seats " + seats + ", open " + open + ", unsure " + unsure;
        due.same(which + ", none failing", x.row(0, 2), whole);
        due.same(which + ", failing", x.row(1, 2), failed);
        due.same(which + ", another one failing", x.row(2, 2), whole);
    }

    /** In how many spaces liquid 1 is when none fails. */
    private void floodIs(String which, SeatProofs x, int want) {
        x.safe();
        due.same("liquid of row 0, " + which, x.row(0, 1), 1);
        due.same("flood " + which, x.row(0, 2), want);
    }

    private void termSpaces() {
        sentence("Terms", "SPACES have numbers from 0 on, at most 64; each has a LIQUID, 1 .. 15, or none (0), "
                + "and a LEVEL, 0 at first.");
        SeatProofs x = new SeatProofs();
        for (int n = 0; n < 64; n++) {
            due.same("space", x.space(n % 16), n);
        }
        due.same("space(1) of 64", x.space(1), FULL);
        due.yes("level(63, 0)", x.level(63, 0));
        due.no("level(64, 0)", x.level(64, 0));
        for (int liquid = 0; liquid < 16; liquid++) {
            x = Plants.of(liquid);
            x.safe();
            due.same("row(0, 1) of liquid " + liquid, x.row(0, 1), liquid == 0 ? NONE : liquid);
        }
        for (int end = 0; end < 2; end++) {
            x = Plants.of(1, 0);
            x.valve(end, 1 - end, 1, true);
            floodIs("on the levels of the beginning", x, 2);
            x.level(0, -1);
            floodIs("from level -1", x, 1);
            x.level(0, 0);
            floodIs("from level 0", x, 2);
        }
    }

    private void termValves() {
        sentence("Terms", "VALVES have numbers from 0 on, at most 64; each stands between two different spaces, "
                + "has one SEAT or two, is OPEN or SHUT, and may be UNSURE.");
        SeatProofs x = Plants.of(1, 0, 0);
        for (int n = 0; n < 64; n++) {
            due.same("valve", x.valve(n % 3, (n + 1) % 3, 1 + n % 2, n % 5 == 0), n);
        }
        due.same("valve of 64", x.valve(0, 1, 1, true), FULL);
        due.no("unsure(63) is no throw", Thrown.byUnsure(x, 63, true));
        due.no("set(63) is no throw", Thrown.bySet(x, 63, true));
        for (int s = 0; s < 3; s++) {
            due.same("valve from " + s + " to itself", x.valve(s, s, 1, true), NONE);
        }
        floodsAre(1, false, false, 1, 2);
        floodsAre(2, false, false, 1, 1);
        floodsAre(1, true, false, 2, 1);
        floodsAre(1, false, true, 2, 2);
    }

    private void termSomePairsMayMeet() {
        sentence("Terms", "Some pairs of liquids MAY meet.");
        for (int less = 1; less < 15; less++) {
            for (int greater = less + 1; greater < 16; greater++) {
                int third = less > 1 ? 1 : greater < 15 ? 15 : 14;
                SeatProofs x = Plants.of(greater, less);
                x.valve(0, 1, 1, true);
                due.same("safe() when none may", x.safe(), 0);
                x.may(less, third);
                x.may(third, greater);
                due.same("safe() when other pairs may", x.safe(), 0);
                boolean turned = (less + greater) % 2 == 0;
                due.yes("may", turned ? x.may(greater, less) : x.may(less, greater));
                due.same("safe() when these may", x.safe(), 1);
            }
        }
    }

    private void termFailure() {
        sentence("Terms", "A FAILURE is that no valve fails, or that one does: a shut one opens, an open one shuts.");
        SeatProofs x = Plants.of(1, 0, 0, 0);
        x.valve(0, 1, 1, true);
        x.valve(0, 2, 1, false);
        x.valve(0, 3, 2, true);
        x.safe();
        due.same("rows(): four failures", x.rows(), 4);
        due.rowIs(x, 0, 0, 1, 3, 1, 1);
        due.rowIs(x, 1, 1, 1, 2, 2, 0, 1);
        due.rowIs(x, 2, 2, 1, 4, 0);
        due.rowIs(x, 3, 3, 1, 2, 2, 1, 2);
        due.same("safe(): never two at once", Plants.chain(1, 1).safe(), 1);
        x = Plants.of(1);
        x.safe();
        due.same("rows() without valves", x.rows(), 1);
    }

    private void termTwoSeatsShutFailing() {
        sentence("Terms", "A valve with two seats that is shut and fails lets nothing through still: "
                + "the space between its seats is drained.");
        floodsAre(2, false, false, 1, 1);
        due.same("safe() with two seats", Plants.chain(2).safe(), 1);
        due.same("safe() with one seat", Plants.chain(1).safe(), 0);
        SeatProofs x = Plants.chain(2);
        x.safe();
        due.rowIs(x, 2, 1, 1, 1, 1, 0);
        due.rowIs(x, 3, 1, 2, 1, 1, 0);
    }

    private void termLetsThrough() {
        sentence("Terms", "A valve LETS THROUGH in a failure when it is open and does not fail, or is shut, "
                + "has one seat and fails, or is unsure (whatever it is, also when it fails, "
                + "unless it has two seats and is shut).");
        floodsAre(1, true, false, 2, 1);
        floodsAre(2, true, false, 2, 1);
        floodsAre(1, false, false, 1, 2);
        floodsAre(2, false, false, 1, 1);
        floodsAre(1, true, true, 2, 2);
        floodsAre(2, true, true, 2, 2);
        floodsAre(1, false, true, 2, 2);
        floodsAre(2, false, true, 1, 1);
    }

    private void termComes() {
        sentence("Terms", "A liquid is in the spaces that have it, and COMES from a space in which it is over a valve "
                + "that lets through to the space on the other side, if the level there is not above that of the "
                + "space that it comes from.");
        SeatProofs x = Plants.of(1, 1, 0, 1);
        x.level(3, Long.MAX_VALUE);
        floodIs("of three spaces that have it", x, 3);
        for (int end = 0; end < 2; end++) {
            x = Plants.of(0, 0, 1, 0, 0);
            for (int s = 0; s < 4; s++) {
                x.valve(s + end, s + 1 - end, 1, true);
            }
            floodIs("both ways along a chain", x, 5);
            x.level(1, 1);
            floodIs("that one side stands above", x, 3);
            x.level(2, 1);
            floodIs("that none stands above", x, 5);
            x.level(3, -2);
            x.level(4, -1);
            // The last is below where the liquid begins, but above the space that it comes from.
            floodIs("that must not rise again", x, 4);
            x.level(2, Long.MIN_VALUE);
            floodIs("from the lowest", x, 1);
            x.level(3, Long.MIN_VALUE);
            floodIs("from the lowest to the lowest", x, 2);
        }
    }

    private void termMeet() {
        sentence("Terms", "Two different liquids MEET in a failure when there is a space in which both are, "
                + "unless these may meet.");
        SeatProofs x = Plants.of(1, 0, 2);
        x.valve(0, 1, 1, true);
        x.valve(1, 2, 2, false);
        due.same("safe(): beside one another", x.safe(), 1);
        x.level(0, 1);
        x.level(2, 1);
        due.no("set(1, true)", x.set(1, true));
        due.same("safe(): both in a third space", x.safe(), 0);
        due.culpritIs(x, 0, 1, 1, 2);
        x.may(1, 2);
        due.same("safe() of those that may", x.safe(), 1);
        x = Plants.of(2, 2);
        x.valve(0, 1, 1, true);
        due.same("safe() of one liquid", x.safe(), 1);
        // Each liquid comes to space 1 in a failure of its own, but not in the same one.
        x = Plants.of(1, 0, 2);
        x.level(0, 1);
        x.level(2, 1);
        x.valve(0, 1, 1, false);
        x.valve(2, 1, 1, false);
        due.same("safe() of two failures", x.safe(), 1);
        due.same("flood of liquid 1 when valve 0 fails", x.row(2, 2), 2);
        due.same("flood of liquid 2 when valve 1 fails", x.row(5, 2), 2);
    }

    private void termFailureNumbers() {
        sentence("Terms", "FAILURES are told by numbers: 0 none, 1 + v that valve v fails.");
        SeatProofs x = Plants.of(1, 2);
        for (int v = 0; v < 5; v++) {
            x.valve(0, 1, v == 3 ? 1 : 2, false);
        }
        due.same("safe()", x.safe(), 0);
        due.same("culprit(0): valve 3", x.culprit(0), 4);
        x.set(3, true);
        due.same("safe()", x.safe(), 0);
        due.same("culprit(0): none", x.culprit(0), 0);
        x.may(2, 1);
        due.same("safe()", x.safe(), 1);
        for (int k = 0; k < 12; k++) {
            due.same("row(" + k + ", 0)", x.row(k, 0), k / 2);
            due.same("row(" + k + ", 2)", x.row(k, 2), k / 2 == 4 ? 1 : 2);
        }
    }

    private void termSafe() {
        sentence("Terms", "It is SAFE when in no failure two liquids meet.");
        due.same("safe() of nothing", new SeatProofs().safe(), 1);
        due.same("safe() of two seats", Plants.chain(2).safe(), 1);
        due.same("safe() of one seat", Plants.chain(1).safe(), 0);
        due.same("safe() of one seat and one", Plants.chain(1, 1).safe(), 1);
        SeatProofs x = Plants.chain(2);
        x.set(0, true);
        due.same("safe() that fails when none does", x.safe(), 0);
        for (int v = 0; v < 3; v++) {
            x = Plants.chain(1, 1, 1);
            for (int open = 0; open < 3; open++) {
                x.set(open, open != v);
            }
            due.same("safe() with valve " + v + " alone shut", x.safe(), 0);
            due.same("culprit(0)", x.culprit(0), 1 + v);
        }
    }

    private void termProof() {
        sentence("Terms", "A PROOF has a ROW for each failure and each liquid that some space has, "
                + "by failures, then by liquids.");
        SeatProofs x = Plants.of(9, 0, 15, 9, 1);
        x.valve(0, 2, 2, false);
        x.valve(4, 2, 2, false);
        x.may(4, 5);
        due.same("safe()", x.safe(), 1);
        due.same("rows()", x.rows(), 9);
        int[] liquids = {1, 9, 15};
        for (int k = 0; k < 9; k++) {
            due.same("row(" + k + ", 0)", x.row(k, 0), k / 3);
            due.same("row(" + k + ", 1)", x.row(k, 1), liquids[k % 3]);
        }
    }

    private void termFloodAndCut() {
        sentence("Terms", "The FLOOD of a row are the spaces in which its liquid is in that failure; "
                + "its CUT are the valves that do not let through then, with one end in the flood and the other one "
                + "not in it, whose level is not above that of the first.");
        SeatProofs x = Plants.of(1, 0, 0, 0, 0, 0);
        x.valve(0, 1, 1, true);
        x.valve(1, 0, 2, false);
        x.valve(1, 2, 1, false);
        x.valve(3, 0, 2, false);
        x.valve(4, 5, 2, false);
        x.valve(1, 4, 2, false);
        x.valve(5, 1, 2, true);
        x.level(4, 1);
        x.level(5, 1);
        x.safe();
        // Valve 1 has both ends in the flood and 4 none; 5 and 6 lead upwards.
        due.rowIs(x, 0, 0, 1, 2, 2, 2, 3);
        due.rowIs(x, 1, 1, 1, 1, 3, 0, 1, 3);
        due.rowIs(x, 2, 2, 1, 2, 2, 2, 3);
        due.rowIs(x, 3, 3, 1, 3, 1, 3);
        due.rowIs(x, 4, 4, 1, 2, 2, 2, 3);
        due.rowIs(x, 7, 7, 1, 2, 2, 2, 3);
        x.unsure(2, true);
        x.safe();
        due.rowIs(x, 0, 0, 1, 3, 1, 3);
        x.level(4, 0);
        x.safe();
        due.rowIs(x, 0, 0, 1, 3, 2, 3, 5);
        x.level(4, -7);
        x.safe();
        due.rowIs(x, 0, 0, 1, 3, 2, 3, 5);
        x.unsure(5, true);
        x.safe();
        due.rowIs(x, 0, 0, 1, 3, 2, 3, 5);
    }

    private void termTouched() {
        sentence("Terms", "A row is TOUCHED by a valve when the failure is that valve's, "
                + "or an end of the valve is in the flood.");
        SeatProofs x = Plants.of(1, 0, 0, 0);
        x.valve(0, 1, 2, false);
        x.valve(1, 0, 2, false);
        x.valve(2, 3, 2, false);
        x.valve(1, 2, 1, false);
        x.valve(0, 3, 2, false);
        x.level(3, 4);
        x.safe();
        int[] touched = {6, 6, 1, 1, 6};
        for (int v = 0; v < 5; v++) {
            due.yes("set(" + v + ", false)", x.set(v, false));
            due.same("tested() of valve " + v, x.tested(), touched[v]);
        }
        due.yes("drop(3)", x.drop(3));
        due.yes("set(2, false)", x.set(2, false));
        due.same("tested() of valve 2 without the row of its failure", x.tested(), 0);
        due.same("safe()", x.safe(), 1);
        due.yes("set(0, true)", x.set(0, true));
        due.yes("set(3, false)", x.set(3, false));
        // Space 1 is in the flood now, but not when valve 0 fails.
        due.same("tested() of valve 3", x.tested(), 5);
    }

    private void newObject() {
        sentence("Promise 1", "No spaces, no valves; no liquids may meet; no proof.");
        SeatProofs x = new SeatProofs();
        due.noProof(x);
        due.noCulprit(x);
        due.same("tested()", x.tested(), 0);
        due.no("level(0, 1)", x.level(0, 1));
        due.same("valve(0, 1, 1, true)", x.valve(0, 1, 1, true), NONE);
        due.yes("set(0, true) throws", Thrown.bySet(x, 0, true));
        due.yes("unsure(0, true) throws", Thrown.byUnsure(x, 0, true));
        due.same("safe()", x.safe(), 1);
        for (int p = 1; p < 16; p++) {
            for (int q = p + 1; q < 16; q++) {
                due.yes("may(" + p + ", " + q + ")", x.may(p, q));
            }
        }
        due.same("space(0)", x.space(0), 0);
        due.same("space(0)", x.space(0), 1);
        due.same("valve(0, 1, 1, true)", x.valve(0, 1, 1, true), 0);
    }

    private void spaceNumber() {
        sentence("Promise 2", "A space with a liquid: its number.");
        SeatProofs x = new SeatProofs();
        due.same("space(5)", x.space(5), 0);
        due.same("space(0)", x.space(0), 1);
        due.same("space(16)", x.space(16), NONE);
        due.same("space(5)", x.space(5), 2);
        due.same("space(2)", x.space(2), 3);
        x.safe();
        due.same("rows()", x.rows(), 2);
        due.rowIs(x, 0, 0, 2, 1, 0);
        due.rowIs(x, 1, 0, 5, 2, 0);
    }

    private void spaceRefused() {
        sentence("Promise 2", "NONE, refused, when liquid is not 0 .. 15; FULL.");
        SeatProofs x = Plants.of(1);
        x.safe();
        int[] wrong = {-1, 16, 17, 256, LEAST, GREATEST};
        for (int liquid : wrong) {
            due.same("space(" + liquid + ")", x.space(liquid), NONE);
            due.same("rows()", x.rows(), 1);
        }
        for (int n = 1; n < 64; n++) {
            due.same("space(0)", x.space(0), n);
        }
        x.safe();
        for (int liquid = 0; liquid < 16; liquid++) {
            due.same("space(" + liquid + ") of 64", x.space(liquid), FULL);
        }
        due.same("space(16) of 64", x.space(16), NONE);
        due.same("rows()", x.rows(), 1);
        due.rowIs(x, 0, 0, 1, 1, 0);
        due.same("check(): no liquid came in", x.check(), 0);
    }

    private void spaceEndsTheProof() {
        sentence("Promise 2", "The proof goes.");
        for (int liquid = 0; liquid < 16; liquid++) {
            SeatProofs x = Plants.of(1);
            x.safe();
            due.same("rows()", x.rows(), 1);
            x.space(liquid);
            due.noProof(x);
        }
    }

    private void valveNumber() {
        sentence("Promise 3", "A valve between two spaces: its number.");
        SeatProofs x = Plants.of(1, 0, 0);
        due.same("valve(0, 1, 1, false)", x.valve(0, 1, 1, false), 0);
        due.same("valve(0, 3, 1, false)", x.valve(0, 3, 1, false), NONE);
        due.same("valve(2, 1, 2, true)", x.valve(2, 1, 2, true), 1);
        due.same("valve(1, 0, 2, false)", x.valve(1, 0, 2, false), 2);
        due.same("valve(0, 2, 2, false)", x.valve(0, 2, 2, false), 3);
        x.safe();
        due.same("rows()", x.rows(), 5);
        due.rowIs(x, 0, 0, 1, 1, 3, 0, 2, 3);
        due.rowIs(x, 1, 1, 1, 3, 0);
        due.rowIs(x, 2, 2, 1, 1, 3, 0, 2, 3);
        due.rowIs(x, 3, 3, 1, 1, 3, 0, 2, 3);
    }

    private void valveRefused() {
        sentence("Promise 3", "NONE, refused, when there is no such space, both are one, or seats is not 1 or 2; FULL.");
        SeatProofs x = Plants.of(1, 0);
        x.safe();
        int[] wrong = {-1, 2, 64, 65536, LEAST, GREATEST};
        for (int w : wrong) {
            due.same("valve(" + w + ", 0, 1, true)", x.valve(w, 0, 1, true), NONE);
            due.same("valve(1, " + w + ", 2, true)", x.valve(1, w, 2, true), NONE);
        }
        due.same("valve(0, 0, 1, true)", x.valve(0, 0, 1, true), NONE);
        due.same("valve(1, 1, 2, false)", x.valve(1, 1, 2, false), NONE);
        int[] wrongSeats = {0, 3, -1, 257, LEAST, GREATEST};
        for (int seats : wrongSeats) {
            due.same("valve(0, 1, " + seats + ", true)", x.valve(0, 1, seats, true), NONE);
        }
        due.same("rows()", x.rows(), 1);
        for (int v = 0; v < 64; v++) {
            due.same("valve(0, 1, 2, false)", x.valve(0, 1, 2, false), v);
        }
        x.safe();
        due.same("valve(0, 1, 1, true) of 64", x.valve(0, 1, 1, true), FULL);
        due.same("valve(1, 0, 2, false) of 64", x.valve(1, 0, 2, false), FULL);
        due.same("valve(0, 0, 1, true) of 64", x.valve(0, 0, 1, true), NONE);
        due.same("rows()", x.rows(), 65);
        due.same("check()", x.check(), 0);
    }

    private void valveEndsTheProof() {
        sentence("Promise 3", "The proof goes.");
        for (int n = 0; n < 4; n++) {
            SeatProofs x = Plants.of(1, 0);
            x.safe();
            due.same("rows()", x.rows(), 1);
            x.valve(0, 1, 1 + n % 2, n / 2 == 0);
            due.noProof(x);
        }
    }

    private void levelOfASpace() {
        sentence("Promise 4", "The level of a space: true, and the proof goes.");
        long[] heights = {0, 1, -1, 1L << 32, Long.MIN_VALUE, Long.MAX_VALUE};
        for (long h : heights) {
            SeatProofs x = Plants.of(1, 0);
            x.valve(1, 0, 1, true);
            x.safe();
            due.same("rows()", x.rows(), 2);
            due.yes("level(1, " + h + ")", x.level(1, h));
            due.noProof(x);
            floodIs("to level " + h, x, h > 0 ? 1 : 2);
            due.yes("level(0, " + h + ")", x.level(0, h));
            due.noProof(x);
            floodIs("to the same level", x, 2);
        }
    }

    private void levelRefused() {
        sentence("Promise 4", "False, refused, when there is no such space.");
        due.no("level(0, 1) without spaces", new SeatProofs().level(0, 1));
        SeatProofs x = Plants.of(1, 0);
        x.valve(0, 1, 1, true);
        x.safe();
        int[] wrong = {-1, 2, 63, 64, 65, 65536, LEAST, GREATEST};
        for (int s : wrong) {
            due.no("level(" + s + ", 5)", x.level(s, 5));
        }
        due.same("rows()", x.rows(), 2);
        due.same("check()", x.check(), 0);
        due.same("space(0)", x.space(0), 2);
        x.valve(1, 2, 1, true);
        floodIs("to a space that was not there", x, 3);
    }

    private void mayMeet() {
        sentence("Promise 5", "Two liquids may meet from now on: true, and the proof goes.");
        int[][] pairs = {{1, 2}, {2, 1}, {1, 15}, {15, 14}, {7, 8}};
        for (int[] p : pairs) {
            SeatProofs x = Plants.of(p[0], p[1]);
            x.valve(0, 1, 2, false);
            x.safe();
            due.same("rows()", x.rows(), 4);
            due.yes("may(" + p[0] + ", " + p[1] + ")", x.may(p[0], p[1]));
            due.noProof(x);
            x.set(0, true);
            due.same("safe() when they meet", x.safe(), 1);
            x.space(p[0]);
            x.valve(2, 1, 1, true);
            due.same("safe() when they meet once more", x.safe(), 1);
        }
    }

    private void mayRefused() {
        sentence("Promise 5", "False, refused, when one is not 1 .. 15, both are one, or they may already.");
        SeatProofs x = Plants.chain(2);
        x.may(3, 4);
        x.safe();
        int[] wrong = {0, -1, 16, 32, 33, 34, LEAST, GREATEST};
        for (int w : wrong) {
            due.no("may(" + w + ", 1)", x.may(w, 1));
            due.no("may(2, " + w + ")", x.may(2, w));
        }
        for (int l = 1; l < 16; l++) {
            due.no("may(" + l + ", " + l + ")", x.may(l, l));
        }
        due.no("may(3, 4) again", x.may(3, 4));
        due.no("may(4, 3) again", x.may(4, 3));
        due.same("rows()", x.rows(), 4);
        due.no("set(0, true): 1 and 2 still may not", x.set(0, true));
    }

    private void safe() {
        sentence("Promise 6", "1 when it is safe, with a proof from now on (none when no space has a liquid); "
                + "0 when it is not, without one.");
        SeatProofs x = Plants.dry(2);
        x.valve(0, 1, 1, true);
        due.same("safe() without liquids", x.safe(), 1);
        due.noProof(x);
        x = Plants.chain(2);
        due.same("rows() before", x.rows(), 0);
        due.same("safe()", x.safe(), 1);
        due.same("rows()", x.rows(), 4);
        due.same("check()", x.check(), 0);
        x.drop(1);
        due.same("safe() again", x.safe(), 1);
        due.same("rows(): all are back", x.rows(), 4);
        due.same("check()", x.check(), 0);
        x.drop(3);
        x.drop(1);
        due.yes("set(0, true) with half a proof", x.set(0, true));
        due.same("safe()", x.safe(), 0);
        due.noProof(x);
        x = Plants.chain(1);
        due.same("safe()", x.safe(), 0);
        due.noProof(x);
    }

    private void culprit() {
        sentence("Promise 7", "When the last safe() answered 0: the first failure in which two liquids meet (what = 0), "
                + "the least space in which they do then (1), there the two least liquids that are in it and may not "
                + "meet: the less (2), the greater (3), of several pairs that with the least less, then the least "
                + "greater.");
        SeatProofs x = Plants.of(9, 0, 7, 0, 8, 6);
        int[][] valves = {{0, 1}, {2, 1}, {4, 3}, {5, 3}, {0, 3}, {2, 3}};
        for (int[] v : valves) {
            x.valve(v[0], v[1], 1, false);
        }
        for (int s = 0; s < 6; s++) {
            x.level(s, s % 2 == 0 ? 5 : s == 5 ? 5 : 0);
        }
        due.same("safe()", x.safe(), 1);
        x.set(2, true);
        x.set(3, true);
        due.same("safe(): 8 and 6 in space 3", x.safe(), 0);
        due.culpritIs(x, 0, 3, 6, 8);
        x.set(4, true);
        x.set(5, true);
        x.safe();
        due.culpritIs(x, 0, 3, 6, 7);
        x.may(7, 6);
        x.safe();
        due.culpritIs(x, 0, 3, 6, 8);
        x.may(6, 8);
        x.may(9, 6);
        x.safe();
        due.culpritIs(x, 0, 3, 7, 8);
        x.set(0, true);
        x.set(1, true);
        x.safe();
        due.culpritIs(x, 0, 1, 7, 9);
        x.set(1, false);
        x.set(4, false);
        x.set(5, false);
        due.same("safe(): only when valve 1 or 5 fails", x.safe(), 0);
        due.culpritIs(x, 2, 1, 7, 9);
        x.set(1, true);
        x.set(0, false);
        x.safe();
        due.culpritIs(x, 1, 1, 7, 9);
        // In space 0 liquid 3 meets none that it may not; that it does in space 1 is not told.
        x = Plants.of(0, 0, 3, 4, 5, 6);
        int[][] down = {{2, 0}, {2, 1}, {3, 1}, {4, 0}, {5, 0}};
        for (int[] v : down) {
            x.level(v[0], 1);
            x.valve(v[0], v[1], 1, true);
        }
        x.may(3, 5);
        x.may(3, 6);
        due.same("safe()", x.safe(), 0);
        due.culpritIs(x, 0, 0, 5, 6);
    }

    private void culpritNone() {
        sentence("Promise 7", "NONE otherwise, and for another what.");
        SeatProofs x = Plants.chain(1);
        due.noCulprit(x);
        due.same("safe()", x.safe(), 0);
        due.culpritIs(x, 1, 0, 1, 2);
        int[] others = {-1, 4, 5, 256, LEAST, GREATEST};
        for (int what : others) {
            due.same("culprit(" + what + ")", x.culprit(what), NONE);
        }
        x.may(1, 2);
        due.same("safe()", x.safe(), 1);
        due.noCulprit(x);
    }

    private void rows() {
        sentence("Promise 8", "How many rows the proof has; 0 without one.");
        SeatProofs x = Plants.chain(2, 1);
        due.same("rows() without a proof", x.rows(), 0);
        x.safe();
        due.same("rows()", x.rows(), 6);
        x.drop(4);
        due.same("rows()", x.rows(), 5);
        x.set(0, false);
        due.same("rows()", x.rows(), 5);
        x.set(1, true);
        due.same("rows()", x.rows(), 5);
        x.level(0, 0);
        due.same("rows() when it went", x.rows(), 0);
    }

    private void row() {
        sentence("Promise 9", "Of row k: its failure (i = 0), its liquid (1), how many spaces its flood has (2), "
                + "how many valves its cut has (3), then the valves of the cut from below.");
        SeatProofs x = Plants.of(0, 7, 0, 7, 5);
        x.valve(4, 3, 2, false);
        x.valve(0, 1, 1, true);
        x.valve(2, 3, 1, false);
        x.valve(1, 2, 2, false);
        x.valve(1, 4, 2, false);
        due.same("safe()", x.safe(), 1);
        due.same("rows()", x.rows(), 12);
        due.rowIs(x, 0, 0, 5, 1, 2, 0, 4);
        due.rowIs(x, 1, 0, 7, 3, 4, 0, 2, 3, 4);
        due.rowIs(x, 3, 1, 7, 3, 4, 0, 2, 3, 4);
        due.rowIs(x, 5, 2, 7, 2, 5, 0, 1, 2, 3, 4);
        due.rowIs(x, 7, 3, 7, 4, 2, 0, 4);
        due.rowIs(x, 10, 5, 5, 1, 2, 0, 4);
        due.rowIs(x, 11, 5, 7, 3, 4, 0, 2, 3, 4);
    }

    private void rowNone() {
        sentence("Promise 9", "NONE when there is no such row or i.");
        SeatProofs x = Plants.chain(2);
        for (int i = -1; i < 6; i++) {
            due.same("row(0, " + i + ") without a proof", x.row(0, i), NONE);
        }
        x.safe();
        int[] wrongRows = {-1, 4, 5, 975, 65536, LEAST, GREATEST};
        for (int k : wrongRows) {
            for (int i = 0; i < 6; i++) {
                due.same("row(" + k + ", " + i + ")", x.row(k, i), NONE);
            }
        }
        int[] wrongParts = {-1, 5, 6, 68, 256, LEAST, LEAST + 4, GREATEST};
        for (int k = 0; k < 4; k++) {
            due.same("row(" + k + ", 4)", x.row(k, 4), 0);
            for (int i : wrongParts) {
                due.same("row(" + k + ", " + i + ")", x.row(k, i), NONE);
            }
        }
    }

    private void check() {
        sentence("Promise 10", "The proof is gone through anew, by nothing but what is told now: 0 when each row's flood "
                + "is right, and its cut holds it, no liquid in it but those that may meet, and there is a row for "
                + "each failure and liquid; 1 + k for the first row k that is not; 1 + rows() when none is wrong, "
                + "but one is missing.");
        SeatProofs x = Plants.chain(2, 2);
        x.safe();
        due.same("check()", x.check(), 0);
        x.set(0, true);
        due.same("check() after set()", x.check(), 0);
        for (int k = 0; k < 6; k++) {
            x.safe();
            x.drop(k);
            due.same("check() without row " + k, x.check(), 6);
        }
        // Rows of liquid 1 alone do not show that liquid 2 comes where it is.
        x.safe();
        x.drop(5);
        x.drop(3);
        x.drop(1);
        due.same("check() of liquid 1 alone", x.check(), 4);
        due.yes("set(1, true)", x.set(1, true));
        due.same("rows()", x.rows(), 3);
        due.same("check(): liquid 2 is in row 0", x.check(), 1);
        x.drop(0);
        due.same("check(): the next one has valve 0 shut", x.check(), 3);
        x = Plants.chain(2);
        x.may(1, 2);
        x.set(0, true);
        x.safe();
        due.same("check() of liquids that may meet", x.check(), 0);
        checkOfALaterRow();
        checkOfWhatComes();
        checkWithoutRows();
    }

    private void checkOfALaterRow() {
        SeatProofs x = Plants.chain(2);
        x.valve(0, 1, 2, false);
        x.safe();
        x.drop(5);
        x.drop(3);
        x.drop(1);
        x.drop(0);
        due.yes("set(0, true)", x.set(0, true));
        due.same("rows()", x.rows(), 2);
        due.same("check(): row 0 holds, since valve 0 shuts", x.check(), 2);
        x.set(0, false);
        due.same("check(): both hold again", x.check(), 3);
    }

    /** The other liquid is not at home in the row's flood, but comes there. */
    private void checkOfWhatComes() {
        SeatProofs x = Plants.of(1, 0, 2);
        x.level(0, 1);
        x.level(2, 1);
        x.valve(0, 1, 1, true);
        x.valve(2, 1, 2, false);
        due.same("safe()", x.safe(), 1);
        x.drop(5);
        x.drop(3);
        x.drop(1);
        due.yes("set(1, true)", x.set(1, true));
        due.same("check(): liquid 2 comes down into row 0", x.check(), 1);
        x.drop(0);
        due.same("check(): where one of the two fails it does not", x.check(), 3);
    }

    private void checkWithoutRows() {
        SeatProofs x = new SeatProofs();
        due.same("check() of nothing", x.check(), 0);
        x.space(0);
        due.same("check() without liquids", x.check(), 0);
        x.space(3);
        due.same("check() of a missing row, without a proof", x.check(), 1);
        x.safe();
        due.same("check()", x.check(), 0);
    }

    private void setOpensOrShuts() {
        sentence("Promise 11", "A valve is opened or shut.");
        for (int n = 0; n < 8; n++) {
            SeatProofs x = Plants.of(1, 0, 0);
            x.valve(0, 2, 2, false);
            x.valve(0, 1, 1 + n % 2, n / 2 % 2 == 0);
            x.valve(0, 2, 2, false);
            boolean open = n / 4 == 0;
            x.set(1, open);
            floodIs("without a proof, open " + open, x, open ? 2 : 1);
            x.set(1, !open);
            due.same("flood with a proof, open " + !open, x.row(0, 2), open ? 1 : 2);
            floodIs("anew, open " + !open, x, open ? 1 : 2);
        }
    }

    private void setMakesRowsAnew() {
        sentence("Promise 11", "With a proof, the rows that it touches are made anew; the proof stands when in no failure "
                + "the floods of two rows share a space though their liquids may not meet, otherwise it goes.");
        SeatProofs x = Plants.chain(1, 2, 1);
        x.safe();
        due.yes("set(0, true)", x.set(0, true));
        due.rowIs(x, 0, 0, 1, 2, 1, 1);
        due.rowIs(x, 2, 1, 1, 1, 1, 0);
        due.rowIs(x, 4, 2, 1, 2, 1, 1);
        due.rowIs(x, 6, 3, 1, 2, 1, 1);
        due.rowIs(x, 1, 0, 2, 1, 1, 2);
        due.yes("set(0, false)", x.set(0, false));
        due.rowIs(x, 0, 0, 1, 1, 1, 0);
        due.rowIs(x, 2, 1, 1, 2, 1, 1);
        due.no("set(1, true): one failure is enough then", x.set(1, true) && x.set(0, true));
        due.noProof(x);
        x = Plants.chain(2);
        x.may(1, 2);
        x.safe();
        due.yes("set(0, true) of liquids that may meet", x.set(0, true));
        due.rowIs(x, 0, 0, 1, 2, 0);
        due.rowIs(x, 3, 1, 2, 1, 1, 0);
        // The floods of rows of two failures may share a space.
        x = Plants.chain(2);
        x.safe();
        x.drop(3);
        x.drop(0);
        due.yes("set(0, true) with one row of each failure", x.set(0, true));
        due.rowIs(x, 0, 0, 2, 2, 0);
        due.rowIs(x, 1, 1, 1, 1, 1, 0);
    }

    private void setAnswers() {
        sentence("Promise 11", "Whether there is a proof then.");
        SeatProofs x = Plants.chain(2);
        due.no("set(0, false) without one", x.set(0, false));
        x.safe();
        due.yes("set(0, false) with one", x.set(0, false));
        due.no("set(0, true) that ends it", x.set(0, true));
        due.no("set(0, false): it does not come back", x.set(0, false));
        due.same("rows()", x.rows(), 0);
        x.safe();
        for (int n = 0; n < 4; n++) {
            x.drop(0);
        }
        due.no("set(0, false) when all rows were dropped", x.set(0, false));
        x = Plants.dry(2);
        x.valve(0, 1, 1, false);
        x.safe();
        due.no("set(0, true) without liquids", x.set(0, true));
    }

    private void setThrows() {
        sentence("Promise 11", "An index that no valve has is thrown, and nothing changes.");
        due.yes("set(0, true) without valves throws", Thrown.bySet(new SeatProofs(), 0, true));
        SeatProofs x = Plants.chain(2, 2);
        x.safe();
        x.set(0, true);
        int made = x.tested();
        for (int v : NO_VALVES) {
            due.yes("set(" + v + ", true) throws", Thrown.bySet(x, v, true));
            due.yes("set(" + v + ", false) throws", Thrown.bySet(x, v, false));
        }
        due.same("rows()", x.rows(), 6);
        due.same("check()", x.check(), 0);
        due.same("tested()", x.tested(), made);
        due.rowIs(x, 0, 0, 1, 2, 1, 1);
        due.same("valve(0, 1, 2, false)", x.valve(0, 1, 2, false), 2);
        due.no("set(2, true) is no throw any more", Thrown.bySet(x, 2, true));
    }

    private void unsure() {
        sentence("Promise 12", "A valve is unsure from now on, or not any more: whether that is new; then the proof goes.");
        SeatProofs x = Plants.of(1, 0, 0);
        x.valve(0, 1, 1, false);
        x.valve(0, 2, 1, false);
        x.safe();
        due.no("unsure(1, false)", x.unsure(1, false));
        due.same("rows()", x.rows(), 3);
        due.yes("unsure(1, true)", x.unsure(1, true));
        due.noProof(x);
        floodIs("over an unsure valve", x, 2);
        due.no("unsure(1, true) again", x.unsure(1, true));
        due.same("rows()", x.rows(), 3);
        due.no("unsure(0, false)", x.unsure(0, false));
        due.yes("unsure(0, true)", x.unsure(0, true));
        floodIs("over two", x, 3);
        due.yes("set(1, true)", x.set(1, true));
        due.same("flood when valve 1 fails: unsure still", x.row(2, 2), 3);
        due.yes("unsure(1, false)", x.unsure(1, false));
        due.noProof(x);
        x.safe();
        due.same("flood when valve 1 fails: not any more", x.row(2, 2), 2);
    }

    private void unsureThrows() {
        sentence("Promise 12", "An index that no valve has is thrown, and nothing changes.");
        due.yes("unsure(0, true) without valves throws", Thrown.byUnsure(new SeatProofs(), 0, true));
        SeatProofs x = Plants.chain(2, 2);
        x.safe();
        x.set(0, true);
        int made = x.tested();
        for (int v : NO_VALVES) {
            due.yes("unsure(" + v + ", true) throws", Thrown.byUnsure(x, v, true));
            due.yes("unsure(" + v + ", false) throws", Thrown.byUnsure(x, v, false));
        }
        due.same("rows()", x.rows(), 6);
        due.same("check()", x.check(), 0);
        due.same("tested()", x.tested(), made);
        due.same("valve(0, 1, 2, false)", x.valve(0, 1, 2, false), 2);
        due.yes("unsure(2, true): it was not", x.unsure(2, true));
    }

    private void testedRows() {
        sentence("Promise 13", "How many rows were made anew by the last set() that was not thrown; "
                + "0 when there was no proof.");
        SeatProofs x = Plants.chain(2, 1, 2);
        due.same("tested() before a set()", x.tested(), 0);
        x.set(0, false);
        due.same("tested() without a proof", x.tested(), 0);
        x.safe();
        x.set(0, true);
        due.same("tested() of valve 0", x.tested(), 5);
        x.set(1, false);
        due.same("tested() of valve 1", x.tested(), 4);
        x.set(2, true);
        due.same("tested() of valve 2, by which it goes", x.tested(), 6);
        due.same("rows()", x.rows(), 0);
        due.yes("set(3, true) throws", Thrown.bySet(x, 3, true));
        x.safe();
        x.check();
        x.unsure(0, true);
        due.same("tested() after other calls", x.tested(), 6);
        x.set(2, false);
        due.same("tested() without a proof again", x.tested(), 0);
        x.safe();
        x.drop(0);
        x.drop(0);
        x.set(2, false);
        due.same("tested() of six rows that are left", x.tested(), 5);
    }

    private void drop() {
        sentence("Promise 14", "Row k is taken out of the proof; those behind come one forward "
                + "(without rows there is no proof): true.");
        int[][] rows = {
            {0, 1, 2, 1, 1}, {0, 2, 1, 1, 1}, {1, 1, 1, 1, 0},
            {1, 2, 1, 1, 1}, {2, 1, 2, 1, 1}, {2, 2, 1, 1, 1},
        };
        for (int k = 0; k < 6; k++) {
            SeatProofs x = Plants.chain(2, 2);
            x.set(0, true);
            x.safe();
            due.yes("drop(" + k + ")", x.drop(k));
            due.same("rows()", x.rows(), 5);
            for (int n = 0; n < 5; n++) {
                due.rowIs(x, n, rows[n < k ? n : n + 1]);
            }
            due.same("row(5, 0)", x.row(5, 0), NONE);
            for (int n = 0; n < 4; n++) {
                due.yes("drop(0)", x.drop(0));
            }
            due.yes("set(0, true) with one row", x.set(0, true));
            due.yes("drop(0), the last", x.drop(0));
            due.noProof(x);
            due.no("set(0, true) without rows", x.set(0, true));
            due.same("tested()", x.tested(), 0);
        }
    }

    private void dropRefused() {
        sentence("Promise 14", "False, refused, when there is no such row.");
        due.no("drop(0) of nothing", new SeatProofs().drop(0));
        SeatProofs x = Plants.chain(2);
        due.no("drop(0) without a proof", x.drop(0));
        x.safe();
        int[] wrong = {-1, 4, 5, 974, 975, 65536, LEAST, GREATEST};
        for (int k : wrong) {
            due.no("drop(" + k + ")", x.drop(k));
        }
        due.same("rows()", x.rows(), 4);
        due.same("check()", x.check(), 0);
        due.rowIs(x, 0, 0, 1, 1, 1, 0);
        due.rowIs(x, 3, 1, 2, 1, 1, 0);
    }

    private void clear() {
        sentence("Promise 15", "All as at first.");
        SeatProofs x = Plants.chain(1, 2, 1);
        x.unsure(0, true);
        x.unsure(1, true);
        x.level(0, 3);
        x.level(1, 5);
        x.level(2, 5);
        x.may(1, 2);
        x.may(14, 15);
        x.safe();
        x.set(1, true);
        due.yes("tested()", x.tested() > 0);
        x.clear();
        asAtFirst(x);
        due.same("space(1)", x.space(1), 0);
        due.same("space(0)", x.space(0), 1);
        due.same("space(0)", x.space(0), 2);
        due.same("valve(2, 1, 1, false)", x.valve(2, 1, 1, false), 0);
        due.same("valve(0, 1, 1, false)", x.valve(0, 1, 1, false), 1);
        x.safe();
        due.same("rows()", x.rows(), 3);
        due.rowIs(x, 0, 0, 1, 1, 1, 1);
        due.rowIs(x, 2, 2, 1, 2, 1, 0);
        for (int p = 1; p < 16; p++) {
            for (int q = p + 1; q < 16; q++) {
                due.yes("may(" + p + ", " + q + ")", x.may(p, q));
            }
        }
        x = Plants.chain(1);
        due.same("safe()", x.safe(), 0);
        x.clear();
        asAtFirst(x);
        // Valve 0 was below space 0 before; now it leads upwards from space 1.
        x.space(3);
        x.space(0);
        x.space(0);
        x.valve(1, 2, 2, false);
        x.level(2, 1);
        x.valve(0, 1, 2, true);
        x.safe();
        due.rowIs(x, 0, 0, 3, 2, 0);
    }

    private void asAtFirst(SeatProofs x) {
        due.noProof(x);
        due.noCulprit(x);
        due.same("tested()", x.tested(), 0);
        due.same("check()", x.check(), 0);
        due.no("level(0, 1)", x.level(0, 1));
        due.same("valve(0, 1, 1, true)", x.valve(0, 1, 1, true), NONE);
        due.yes("set(0, true) throws", Thrown.bySet(x, 0, true));
        due.yes("unsure(0, true) throws", Thrown.byUnsure(x, 0, true));
        due.same("safe()", x.safe(), 1);
        due.same("rows()", x.rows(), 0);
    }
}
