import java.util.ArrayList;
import java.util.List;
import java.util.Set;
import java.util.TreeSet;

/**
 * The document's words once more, as slow and literal as can be, to compare with: it shares no code
 * and no way of reckoning with SeatProofs.
 */
final class PlainModel {
    private static final class Valve {
        int a;
        int b;
        int seats;
        boolean open;
        boolean unsure;
    }

    private static final class Row {
        int failure;
        int liquid;
        Set<Integer> flood;
        Set<Integer> cut;
    }

    private final List<Integer> liquids = new ArrayList<>();
    private final List<Long> levels = new ArrayList<>();
    private final List<Valve> valves = new ArrayList<>();
    private final boolean[][] friends = new boolean[16][16];
    private List<Row> proof = new ArrayList<>();
    private int[] culprit = null;
    private int tested = 0;

    int space(int liquid) {
        if (liquid < 0 || liquid > 15) {
            return -1;
        }
        if (liquids.size() == 64) {
            return -2;
        }
        liquids.add(liquid);
        levels.add(0L);
        proof = new ArrayList<>();
        return liquids.size() - 1;
    }

    private boolean noSpace(int s) {
        return s < 0 || s >= liquids.size();
    }

    int valve(int a, int b, int seats, boolean open) {
        if (noSpace(a) || noSpace(b) || a == b || seats < 1 || seats > 2) {
            return -1;
        }
        if (valves.size() == 64) {
            return -2;
        }
        Valve v = new Valve();
        v.a = a;
        v.b = b;
        v.seats = seats;
        v.open = open;
        valves.add(v);
        proof = new ArrayList<>();
        return valves.size() - 1;
    }

    boolean level(int s, long h) {
        if (noSpace(s)) {
            return false;
        }
        levels.set(s, h);
        proof = new ArrayList<>();
        return true;
    }

    boolean may(int p, int q) {
        if (p < 1 || p > 15 || q < 1 || q > 15 || p == q || friends[p][q]) {
            return false;
        }
        friends[p][q] = true;
        friends[q][p] = true;
        proof = new ArrayList<>();
        return true;
    }

    private boolean lets(int v, int failure) {
        Valve x = valves.get(v);
        boolean fails = failure == 1 + v;
        if (x.unsure) {
            return x.open || x.seats == 1;
        }
        if (x.open) {
            return !fails;
        }
        return fails && x.seats == 1;
    }

    private Set<Integer> flood(int failure, int liquid) {
        Set<Integer> in = new TreeSet<>();
        for (int s = 0; s < liquids.size(); s++) {
            if (liquids.get(s) == liquid) {
                in.add(s);
            }
        }
        boolean grew = true;
        while (grew) {
            grew = false;
            for (int v = 0; v < valves.size(); v++) {
                Valve x = valves.get(v);
                if (lets(v, failure)) {
                    if (in.contains(x.a) && levels.get(x.b) <= levels.get(x.a) && in.add(x.b)) {
                        grew = true;
                    }
                    if (in.contains(x.b) && levels.get(x.a) <= levels.get(x.b) && in.add(x.a)) {
                        grew = true;
                    }
                }
            }
        }
        return in;
    }

    private Set<Integer> cut(int failure, Set<Integer> flood) {
        Set<Integer> shut = new TreeSet<>();
        for (int v = 0; v < valves.size(); v++) {
            Valve x = valves.get(v);
            if (!lets(v, failure) && flood.contains(x.a) != flood.contains(x.b)) {
                int wet = flood.contains(x.a) ? x.a : x.b;
                int dry = flood.contains(x.a) ? x.b : x.a;
                if (levels.get(dry) <= levels.get(wet)) {
                    shut.add(v);
                }
            }
        }
        return shut;
    }

    private Row make(int failure, int liquid) {
        Row r = new Row();
        r.failure = failure;
        r.liquid = liquid;
        r.flood = flood(failure, liquid);
        r.cut = cut(failure, r.flood);
        return r;
    }

    private List<Row> allRows() {
        List<Row> all = new ArrayList<>();
        for (int failure = 0; failure <= valves.size(); failure++) {
            for (int liquid = 1; liquid <= 15; liquid++) {
                if (liquids.contains(liquid)) {
                    all.add(make(failure, liquid));
                }
            }
        }
        return all;
    }

    /** Of all places where two rows clash, the first by failure, space, less and greater liquid. */
    private int[] firstClash(List<Row> rows) {
        int[] first = null;
        for (Row p : rows) {
            for (Row q : rows) {
                if (p.failure != q.failure || p.liquid >= q.liquid || friends[p.liquid][q.liquid]) {
                    continue;
                }
                for (int s : p.flood) {
                    int[] here = {p.failure, s, p.liquid, q.liquid};
                    if (q.flood.contains(s) && (first == null || java.util.Arrays.compare(here, first) < 0)) {
                        first = here;
                    }
                }
            }
        }
        return first;
    }

    int safe() {
        List<Row> all = allRows();
        culprit = firstClash(all);
        proof = culprit == null ? all : new ArrayList<>();
        return culprit == null ? 1 : 0;
    }

    int culprit(int what) {
        return culprit == null || what < 0 || what > 3 ? -1 : culprit[what];
    }

    int rows() {
        return proof.size();
    }

    int row(int k, int i) {
        if (k < 0 || k >= proof.size()) {
            return -1;
        }
        Row r = proof.get(k);
        List<Integer> told = new ArrayList<>(List.of(r.failure, r.liquid, r.flood.size(), r.cut.size()));
        told.addAll(r.cut);
        return i < 0 || i >= told.size() ? -1 : told.get(i);
    }

    int check() {
        List<Row> all = allRows();
        for (int k = 0; k < proof.size(); k++) {
            Row r = proof.get(k);
            Row right = make(r.failure, r.liquid);
            boolean wrong = !right.flood.equals(r.flood) || !right.cut.equals(r.cut);
            for (Row o : all) {
                if (o.failure == r.failure && o.liquid != r.liquid && !friends[o.liquid][r.liquid]) {
                    for (int s : o.flood) {
                        wrong |= r.flood.contains(s);
                    }
                }
            }
            if (wrong) {
                return 1 + k;
            }
        }
        for (Row o : all) {
            boolean there = false;
            for (Row r : proof) {
                there |= r.failure == o.failure && r.liquid == o.liquid;
            }
            if (!there) {
                return 1 + proof.size();
            }
        }
        return 0;
    }

    boolean lacksValve(int v) {
        return v < 0 || v >= valves.size();
    }

    boolean set(int v, boolean open) {
        Valve x = valves.get(v);
        x.open = open;
        tested = 0;
        for (int k = 0; k < proof.size(); k++) {
            Row r = proof.get(k);
            if (r.failure == 1 + v || r.flood.contains(x.a) || r.flood.contains(x.b)) {
                proof.set(k, make(r.failure, r.liquid));
                tested++;
            }
        }
        if (firstClash(proof) != null) {
            proof = new ArrayList<>();
        }
        return !proof.isEmpty();
    }

    boolean unsure(int v, boolean on) {
        Valve x = valves.get(v);
        if (x.unsure == on) {
            return false;
        }
        x.unsure = on;
        proof = new ArrayList<>();
        return true;
    }

    int tested() {
        return tested;
    }

    boolean drop(int k) {
        if (k < 0 || k >= proof.size()) {
            return false;
        }
        proof.remove(k);
        return true;
    }
}
