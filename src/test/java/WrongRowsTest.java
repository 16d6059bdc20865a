import java.lang.reflect.Field;

/**
 * check() finds a row whose flood or cut is not right. No run of calls makes such a row, since set()
 * makes anew what it touches; so this test alone reaches into the object and spoils its rows.
 */
public final class WrongRowsTest {
    /** Numbers of spaces and valves, and one that is not there. */
    private static final int[] NUMBERS = {0, 1, 2, 3, 63};

    private final Due due = new Due();

    public static void main(String[] args) throws IllegalAccessException {
        WrongRowsTest t = new WrongRowsTest();
        try {
            t.spoil("flood");
            t.spoil("cut");
        } catch (NoSuchFieldException e) {
            System.out.println("the rows are held otherwise, so none was spoilt");
        }
        t.due.end();
    }

    /** By row, the bits that stand for its spaces or valves. */
    private static long[] held(SeatProofs x, String name) throws NoSuchFieldException, IllegalAccessException {
        Field proof = SeatProofs.class.getDeclaredField("proof");
        proof.setAccessible(true);
        Field bits = proof.getType().getDeclaredField(name);
        bits.setAccessible(true);
        return (long[]) bits.get(proof.get(x));
    }

    private void spoil(String name) throws NoSuchFieldException, IllegalAccessException {
        due.part("promise 10: a wrong " + name);
        SeatProofs x = Plants.chain(1, 2, 2);
        x.set(0, true);
        due.same("safe()", x.safe(), 1);
        due.same("check()", x.check(), 0);
        long[] bits = held(x, name);
        for (int k = 0; k < x.rows(); k++) {
            for (int n : NUMBERS) {
                bits[k] ^= 1L << n;
                due.same("check() with " + n + " wrong in row " + k, x.check(), 1 + k);
                bits[k] ^= 1L << n;
            }
        }
        due.same("check() when all is mended", x.check(), 0);
        bits[6] = 0;
        bits[4] = 0;
        due.same("check() of two wrong rows", x.check(), 5);
        x.drop(7);
        due.same("check() of wrong rows and a missing one", x.check(), 5);
        due.same("safe()", x.safe(), 1);
        due.same("check() of a new proof", x.check(), 0);
    }
}
