/** Whether a call throws the document's exception, and no other one. */
final class Thrown {
    private Thrown() {
    }

    static boolean bySet(SeatProofs x, int valve, boolean open) {
        try {
            x.set(valve, open);
            return false;
        } catch (RuntimeException e) {
            return e.getClass() == IndexOutOfBoundsException.class;
        }
    }

    static boolean byUnsure(SeatProofs x, int valve, boolean on) {
        try {
            x.unsure(valve, on);
            return false;
        } catch (RuntimeException e) {
            return e.getClass() == IndexOutOfBoundsException.class;
        }
    }
}
