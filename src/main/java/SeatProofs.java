/**
 * Whether rows of valves are safe: spaces with liquids, valves between them, of which any one may
 * fail; proofs by rows that tell how far each liquid comes and which shut valves hold it there.
 */
public final class SeatProofs {
    public static final int NONE = -1;
    public static final int FULL = -2;

    private static final int MOST_SPACES = 64;
    private static final int MOST_VALVES = 64;
    /** The numbers 0 .. 15 that a space's liquid may have; 0 is none. */
    private static final int LIQUIDS = 16;
    private static final int MOST_ROWS = (MOST_VALVES + 1) * (LIQUIDS - 1);
    /** What culprit() can be asked: failure, space, the less liquid, the greater one. */
    private static final int CULPRIT_PARTS = 4;
    /** What stands in a row before the valves of its cut. */
    private static final int ROW_HEAD = 4;

    private final Plant plant;
    private final Flow flow;
    private final Proof proof;
    /** Kept as safe() found it, since later calls may change the plant. */
    private final int[] found;
    private boolean foundUnsafe;
    private int remade;

    public SeatProofs() {
        plant = new Plant();
        flow = new Flow(plant);
        proof = new Proof();
        found = new int[CULPRIT_PARTS];
        foundUnsafe = false;
        remade = 0;
    }

    public int space(int liquid) {
        if (liquid < 0 || liquid >= LIQUIDS) {
            return NONE;
        }
        if (plant.spaces >= MOST_SPACES) {
            return FULL;
        }
        proof.empty();
        return plant.addSpace(liquid);
    }

    public int valve(int a, int b, int seats, boolean open) {
        if (!plant.hasSpace(a) || !plant.hasSpace(b) || a == b) {
            return NONE;
        }
        if (seats != 1 && seats != 2) {
            return NONE;
        }
        if (plant.valves >= MOST_VALVES) {
            return FULL;
        }
        proof.empty();
        return plant.addValve(a, b, seats == 2, open);
    }

    public boolean level(int space, long v) {
        if (!plant.hasSpace(space)) {
            return false;
        }
        plant.raiseTo(space, v);
        proof.empty();
        return true;
    }

    public boolean may(int liquid, int other) {
        if (!isLiquid(liquid) || !isLiquid(other) || liquid == other) {
            return false;
        }
        if (plant.areFriends(liquid, other)) {
            return false;
        }
        plant.befriend(liquid, other);
        proof.empty();
        return true;
    }

    public int safe() {
        proof.empty();
        foundUnsafe = false;
        for (int failure = 0; failure <= plant.valves; failure++) {
            flow.lay(failure);
            flow.floodAll();
            long meetings = flow.meetings();
            if (meetings != 0) {
                keepCulprit(failure, lowest(meetings));
                proof.empty();
                return 0;
            }
            addRows(failure);
        }
        return 1;
    }

    public int culprit(int what) {
        if (!foundUnsafe || what < 0 || what >= CULPRIT_PARTS) {
            return NONE;
        }
        return found[what];
    }

    public int rows() {
        return proof.count;
    }

    public int row(int k, int i) {
        if (!proof.hasRow(k) || i < 0) {
            return NONE;
        }
        switch (i) {
            case 0:
                return proof.failure[k];
            case 1:
                return proof.liquid[k];
            case 2:
                return Long.bitCount(proof.flood[k]);
            case 3:
                return Long.bitCount(proof.cut[k]);
            default:
                return memberAt(proof.cut[k], i - ROW_HEAD);
        }
    }

    public int check() {
        int laid = NONE;
        for (int k = 0; k < proof.count; k++) {
            if (proof.failure[k] != laid) {
                laid = proof.failure[k];
                flow.lay(laid);
                flow.floodAll();
            }
            if (!isRight(k)) {
                return 1 + k;
            }
        }
        // No two rows are for the same failure and liquid, so that their number tells if one is missing.
        return proof.count < plant.rowsDue() ? 1 + proof.count : 0;
    }

    public boolean set(int valve, boolean open) throws IndexOutOfBoundsException {
        if (!plant.hasValve(valve)) {
            throw new IndexOutOfBoundsException("no such valve");
        }
        plant.turn(valve, open);
        remade = remakeTouched(valve);
        if (rowsClash()) {
            proof.empty();
        }
        return proof.count > 0;
    }

    public boolean unsure(int valve, boolean on) throws IndexOutOfBoundsException {
        if (!plant.hasValve(valve)) {
            throw new IndexOutOfBoundsException("no such valve");
        }
        if (has(plant.unsureValves, valve) == on) {
            return false;
        }
        plant.doubt(valve, on);
        proof.empty();
        return true;
    }

    public int tested() {
        return remade;
    }

    public boolean drop(int row) {
        if (!proof.hasRow(row)) {
            return false;
        }
        proof.remove(row);
        return true;
    }

    public void clear() {
        plant.empty();
        proof.empty();
        foundUnsafe = false;
        remade = 0;
    }

    private void keepCulprit(int failure, int place) {
        foundUnsafe = true;
        found[0] = failure;
        found[1] = place;
        int less = flow.leastClashing(place, 0);
        found[2] = less;
        found[3] = flow.leastClashing(place, less);
    }

    private void addRows(int failure) {
        for (int liquid = 1; liquid < LIQUIDS; liquid++) {
            long flood = flow.floods[liquid];
            if (flood != 0) {
                proof.add(failure, liquid, flood, flow.cutOf(flood));
            }
        }
    }

    private boolean isRight(int k) {
        int liquid = proof.liquid[k];
        long flood = proof.flood[k];
        return flood == flow.floods[liquid]
                && proof.cut[k] == flow.cutOf(flood)
                && !flow.clashes(liquid, flood);
    }

    private int remakeTouched(int valve) {
        int laid = NONE;
        int made = 0;
        for (int k = 0; k < proof.count; k++) {
            if (isTouched(k, valve)) {
                if (proof.failure[k] != laid) {
                    laid = proof.failure[k];
                    flow.lay(laid);
                }
                proof.flood[k] = flow.floodOf(proof.liquid[k]);
                proof.cut[k] = flow.cutOf(proof.flood[k]);
                made++;
            }
        }
        return made;
    }

    private boolean isTouched(int k, int valve) {
        return proof.failure[k] == 1 + valve
                || has(proof.flood[k], plant.oneEnd[valve])
                || has(proof.flood[k], plant.otherEnd[valve]);
    }

    private boolean rowsClash() {
        for (int k = 0; k < proof.count; k++) {
            // Rows of one failure stand together, also when some were dropped.
            for (int j = k + 1; j < proof.count && proof.failure[j] == proof.failure[k]; j++) {
                if ((proof.flood[k] & proof.flood[j]) != 0
                        && !plant.areFriends(proof.liquid[k], proof.liquid[j])) {
                    return true;
                }
            }
        }
        return false;
    }

    private static boolean isLiquid(int number) {
        return number >= 1 && number < LIQUIDS;
    }

    private static long only(int member) {
        return 1L << member;
    }

    private static boolean has(long members, int member) {
        return (members & only(member)) != 0;
    }

    /** The least member; 64 when there is none. */
    private static int lowest(long members) {
        return Long.bitCount((members & -members) - 1);
    }

    /** The member with so many below it; NONE when there are not so many. */
    private static int memberAt(long members, int below) {
        if (below < 0 || below >= Long.bitCount(members)) {
            return NONE;
        }
        long left = members;
        for (int n = 0; n < below; n++) {
            left &= left - 1;
        }
        return lowest(left);
    }

    /** What was told of the spaces, valves and liquids; sets of them are the bits of a number. */
    private static final class Plant {
        private int spaces;
        private int valves;
        private final long[] levels = new long[MOST_SPACES];
        /** By liquid, the spaces that have it. */
        private final long[] sources = new long[LIQUIDS];
        /** By liquid, the liquids that it may meet. */
        private final int[] friends = new int[LIQUIDS];
        private final int[] oneEnd = new int[MOST_VALVES];
        private final int[] otherEnd = new int[MOST_VALVES];
        private long openValves;
        private long unsureValves;
        private long doubleValves;
        /** By space, the valves that end there. */
        private final long[] ends = new long[MOST_SPACES];
        /** By space, the valves that end there and whose other end is not above it. */
        private final long[] falls = new long[MOST_SPACES];

        void empty() {
            spaces = 0;
            valves = 0;
            openValves = 0;
            unsureValves = 0;
            doubleValves = 0;
            for (int liquid = 0; liquid < LIQUIDS; liquid++) {
                sources[liquid] = 0;
                friends[liquid] = 0;
            }
        }

        boolean hasSpace(int number) {
            return number >= 0 && number < spaces;
        }

        boolean hasValve(int number) {
            return number >= 0 && number < valves;
        }

        int addSpace(int liquid) {
            int number = spaces;
            levels[number] = 0;
            ends[number] = 0;
            falls[number] = 0;
            sources[liquid] |= only(number);
            spaces++;
            return number;
        }

        int addValve(int a, int b, boolean twoSeats, boolean isOpen) {
            int number = valves;
            oneEnd[number] = a;
            otherEnd[number] = b;
            ends[a] |= only(number);
            ends[b] |= only(number);
            if (twoSeats) {
                doubleValves |= only(number);
            }
            turn(number, isOpen);
            valves++;
            measure(number);
            return number;
        }

        void raiseTo(int number, long height) {
            levels[number] = height;
            for (int v = 0; v < valves; v++) {
                if (has(ends[number], v)) {
                    measure(v);
                }
            }
        }

        private void measure(int v) {
            int a = oneEnd[v];
            int b = otherEnd[v];
            falls[a] = with(falls[a], v, levels[b] <= levels[a]);
            falls[b] = with(falls[b], v, levels[a] <= levels[b]);
        }

        void turn(int v, boolean isOpen) {
            openValves = with(openValves, v, isOpen);
        }

        void doubt(int v, boolean on) {
            unsureValves = with(unsureValves, v, on);
        }

        private static long with(long members, int member, boolean in) {
            return in ? members | only(member) : members & ~only(member);
        }

        boolean areFriends(int liquid, int other) {
            return (friends[liquid] & (1 << other)) != 0;
        }

        void befriend(int liquid, int other) {
            friends[liquid] |= 1 << other;
            friends[other] |= 1 << liquid;
        }

        int rowsDue() {
            int liquids = 0;
            for (int liquid = 1; liquid < LIQUIDS; liquid++) {
                if (sources[liquid] != 0) {
                    liquids++;
                }
            }
            return (1 + valves) * liquids;
        }

        /** The valves that let through in a failure. */
        long letting(int failure) {
            long failing = failure == 0 ? 0 : only(failure - 1);
            long drained = doubleValves & ~openValves;
            return (openValves & ~failing)
                    | (failing & ~openValves & ~doubleValves)
                    | (unsureValves & ~drained);
        }
    }

    /** How the liquids come in the one failure that was laid last; its arrays are used again. */
    private static final class Flow {
        private final Plant plant;
        private long letting;
        /** By space, the spaces to which a liquid comes from it over one valve. */
        private final long[] ways = new long[MOST_SPACES];
        /** By liquid, the spaces in which it is. */
        private final long[] floods = new long[LIQUIDS];

        Flow(Plant plant) {
            this.plant = plant;
        }

        void lay(int failure) {
            letting = plant.letting(failure);
            for (int s = 0; s < plant.spaces; s++) {
                ways[s] = 0;
            }
            for (int v = 0; v < plant.valves; v++) {
                if (has(letting, v)) {
                    layWay(v, plant.oneEnd[v], plant.otherEnd[v]);
                    layWay(v, plant.otherEnd[v], plant.oneEnd[v]);
                }
            }
        }

        private void layWay(int v, int from, int to) {
            if (has(plant.falls[from], v)) {
                ways[from] |= only(to);
            }
        }

        void floodAll() {
            for (int liquid = 1; liquid < LIQUIDS; liquid++) {
                floods[liquid] = floodOf(liquid);
            }
        }

        long floodOf(int liquid) {
            long flood = plant.sources[liquid];
            long left = flood;
            for (int n = 0; n < MOST_SPACES && left != 0; n++) {
                long fresh = ways[lowest(left)] & ~flood;
                flood |= fresh;
                left = (left & (left - 1)) | fresh;
            }
            return flood;
        }

        long cutOf(long flood) {
            long edge = 0;
            long falling = 0;
            long left = flood;
            for (int n = 0; n < MOST_SPACES && left != 0; n++) {
                int s = lowest(left);
                // A valve with both ends in the flood comes twice, and so goes out again.
                edge ^= plant.ends[s];
                falling |= plant.falls[s];
                left &= left - 1;
            }
            return edge & falling & ~letting;
        }

        /** Whether some liquid that this one may not meet is in its flood. */
        boolean clashes(int liquid, long flood) {
            for (int other = 1; other < LIQUIDS; other++) {
                if (other != liquid && (floods[other] & flood) != 0
                        && !plant.areFriends(liquid, other)) {
                    return true;
                }
            }
            return false;
        }

        /** The spaces in which two liquids meet. */
        long meetings() {
            long met = 0;
            for (int less = 1; less < LIQUIDS; less++) {
                for (int greater = less + 1; greater < LIQUIDS; greater++) {
                    if (!plant.areFriends(less, greater)) {
                        met |= floods[less] & floods[greater];
                    }
                }
            }
            return met;
        }

        /**
         * The least liquid in a space that clashes there: with any other one (foe = 0), or with
         * the liquid given. NONE when there is none.
         */
        int leastClashing(int place, int foe) {
            for (int liquid = 1; liquid < LIQUIDS; liquid++) {
                if (has(floods[liquid], place) && liquid != foe) {
                    boolean clash = foe == 0
                            ? clashes(liquid, only(place))
                            : !plant.areFriends(liquid, foe);
                    if (clash) {
                        return liquid;
                    }
                }
            }
            return NONE;
        }
    }

    /** The rows; there is a proof when there are some. */
    private static final class Proof {
        private int count;
        private final int[] failure = new int[MOST_ROWS];
        private final int[] liquid = new int[MOST_ROWS];
        private final long[] flood = new long[MOST_ROWS];
        private final long[] cut = new long[MOST_ROWS];

        void empty() {
            count = 0;
        }

        boolean hasRow(int k) {
            return k >= 0 && k < count;
        }

        void add(int itsFailure, int itsLiquid, long itsFlood, long itsCut) {
            if (count < MOST_ROWS) {
                failure[count] = itsFailure;
                liquid[count] = itsLiquid;
                flood[count] = itsFlood;
                cut[count] = itsCut;
                count++;
            }
        }

        void remove(int k) {
            int behind = count - k - 1;
            System.arraycopy(failure, k + 1, failure, k, behind);
            System.arraycopy(liquid, k + 1, liquid, k, behind);
            System.arraycopy(flood, k + 1, flood, k, behind);
            System.arraycopy(cut, k + 1, cut, k, behind);
            count--;
        }
    }
}
