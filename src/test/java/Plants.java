/** Small plants from which the tests start. */
final class Plants {
    private Plants() {
    }

    /** A space with each of these liquids, without valves. */
    static SeatProofs of(int... liquids) {
        SeatProofs x = new SeatProofs();
        for (int liquid : liquids) {
            x.space(liquid);
        }
        return x;
    }

    /** So many spaces without a liquid. */
    static SeatProofs dry(int number) {
        return of(new int[number]);
    }

    /** Liquid 1 and 2 at the ends of a chain of empty spaces, all its valves shut. */
    static SeatProofs chain(int... seats) {
        int[] liquids = new int[seats.length + 1];
        liquids[0] = 1;
        liquids[seats.length] = 2;
        SeatProofs x = of(liquids);
        for (int n = 0; n < seats.length; n++) {
            x.valve(n, n + 1, seats[n], false);
        }
        return x;
    }
}
