/** Counts the answers that are not as due, and prints each. */
final class Due {
    private int asked = 0;
    private int wrong = 0;
    private String part = "";

    void part(String name) {
        part = name;
    }

    void same(String call, long got, long want) {
        asked++;
        if (got != want) {
            wrong++;
            System.out.println(part + ": " + call + " answered " + got + ", due is " + want);
        }
    }

    void yes(String call, boolean got) {
        same(call, got ? 1 : 0, 1);
    }

    void no(String call, boolean got) {
        same(call, got ? 1 : 0, 0);
    }

    void alike(String what, String got, String want) {
        asked++;
        if (!got.equals(want)) {
            wrong++;
            System.out.println(part + ": " + what + " told: " + got + "\n  due is: " + want);
        }
    }

    /** The whole row: also that nothing comes behind what is wanted. */
    void rowIs(SeatProofs x, int k, int... want) {
        for (int i = 0; i < want.length; i++) {
            same("row(" + k + ", " + i + ")", x.row(k, i), want[i]);
        }
        same("row(" + k + ", " + want.length + ")", x.row(k, want.length), SeatProofs.NONE);
    }

    void culpritIs(SeatProofs x, int... want) {
        for (int what = 0; what < want.length; what++) {
            same("culprit(" + what + ")", x.culprit(what), want[what]);
        }
    }

    void noCulprit(SeatProofs x) {
        int none = SeatProofs.NONE;
        culpritIs(x, none, none, none, none);
    }

    void noProof(SeatProofs x) {
        same("rows()", x.rows(), 0);
        same("row(0, 0)", x.row(0, 0), SeatProofs.NONE);
        no("drop(0)", x.drop(0));
    }

    boolean anyWrong() {
        return wrong > 0;
    }

    void end() {
        System.out.println(asked + " answers, " + wrong + " not as due");
        if (wrong > 0 || asked == 0) {
            System.exit(1);
        }
    }
}
