import java.util.ArrayList;
import java.util.Arrays;
import java.util.List;

/**
 * The document once more, in the plainest and slowest words: plans and explanations are all
 * written out, and wood is burnt from the beginning for each number of logs.
 */
final class Reference {
    static final int NONE = -1, BAD = -2, NOT = -3, FULL = -4;
    static final int[] MASS = {10, 30, 60};
    static final int[] ROOM = {2, 3, 4, 4};

    static final class Stove {
        long[][] heat = new long[4][3];
        int[] damp = new int[4];
        int[] crack = new int[4];
        int air = 10;
        int fire = 0;
        List<int[]> logs = new ArrayList<>();
        long in = 0;
        long lost = 0;

        Stove() {
            for (long[] ring : heat) {
                ring[0] = 100;
                ring[1] = 300;
                ring[2] = 600;
            }
        }

        Stove copy() {
            Stove s = new Stove();
            for (int r = 0; r < 4; r++) {
                s.heat[r] = heat[r].clone();
            }
            s.damp = damp.clone();
            s.crack = crack.clone();
            s.air = air;
            s.fire = fire;
            s.logs = new ArrayList<>(logs);
            return s;
        }

        long[][] warmths() {
            long[][] w = new long[4][3];
            for (int r = 0; r < 4; r++) {
                for (int l = 0; l < 3; l++) {
                    w[r][l] = heat[r][l] / MASS[l];
                }
            }
            return w;
        }

        void fiveSteps(boolean open) {
            if (!logs.isEmpty()) {
                int[] first = logs.remove(0);
                long comes = (long) first[0] * (2000 - 26L * first[1]) / 10;
                long half = comes / 2;
                long quarter = (comes - half) / 2;
                heat[fire][0] += half;
                heat[fire + 1][0] += quarter;
                heat[fire == 0 ? 0 : fire - 1][0] += comes - half - quarter;
                in += comes;
            }
            long[][] w = warmths();
            for (int r = 0; r < 4; r++) {
                if (damp[r] > 0 && w[r][0] >= 90) {
                    long n = Math.min(damp[r], (w[r][0] - 90) / 4 + 1);
                    damp[r] -= (int) n;
                    heat[r][0] -= n * 25;
                    lost += n * 25;
                }
            }
            w = warmths();
            for (int r = 0; r < 4; r++) {
                flow(r, 0, r, 1, 2 * (w[r][0] - w[r][1]));
                flow(r, 1, r, 2, (2 + crack[r]) * (w[r][1] - w[r][2]));
            }
            w = warmths();
            flow(0, 0, 1, 0, w[0][0] - w[1][0]);
            flow(1, 0, 2, 0, w[1][0] - w[2][0]);
            flow(2, 0, 3, 0, w[2][0] - w[3][0]);
            w = warmths();
            for (int r = 0; r < 4; r++) {
                if (w[r][2] > air) {
                    leave(r, 2, (w[r][2] - air) * (1 + crack[r]));
                }
            }
            if (open) {
                int[] times = {0, 1, 2, 4};
                for (int r = 1; r < 4; r++) {
                    if (w[r][0] > air) {
                        leave(r, 0, times[r] * (w[r][0] - air));
                    }
                }
            }
        }

        private void flow(int r, int l, int toR, int toL, long much) {
            heat[r][l] -= much;
            heat[toR][toL] += much;
        }

        private void leave(int r, int l, long much) {
            heat[r][l] -= much;
            lost += much;
        }
    }

    static final class Bread {
        int places, least, most, from, to, may;
        boolean crown;
        int behind = 0, from2, to2;

        char look(int age, long w) {
            int low = behind > 0 && age > behind ? from2 : from;
            int high = behind > 0 && age > behind ? to2 : to;
            return w < low ? 'p' : w > high ? 's' : 'r';
        }
    }

    static final class Piece {
        Bread bread;
        int kind, ring;
        String seen = "";

        int often(char c) {
            int n = 0;
            for (char d : seen.toCharArray()) {
                n += c == d ? 1 : 0;
            }
            return n;
        }

        int result() {
            if (often('s') > bread.may) {
                return 2;
            }
            if (often('r') < bread.least) {
                return 0;
            }
            return seen.length() > bread.most ? 3 : 1;
        }
    }

    Stove stove = new Stove();
    List<Bread> breads = new ArrayList<>();
    List<Piece> pieces = new ArrayList<>();
    boolean door = false;
    long given = 0;
    int gone = 0, good = 0;
    List<Integer> orders = new ArrayList<>();
    List<Integer> openings = new ArrayList<>();
    int n = 4, custom = 0, seed = 0, slots = 3;
    List<int[]> told = new ArrayList<>();
    int[][] notes = new int[61][4];
    List<int[]> bricks = new ArrayList<>();

    static boolean out(long v, long low, long high) {
        return v < low || v > high;
    }

    int air(int v) {
        if (out(v, 0, 40)) {
            return BAD;
        }
        int was = stove.air;
        stove.air = v;
        return was;
    }

    int damp(int ring, int v) {
        if (out(ring, 0, 3) || out(v, 0, 1000)) {
            return BAD;
        }
        int was = stove.damp[ring];
        stove.damp[ring] = v;
        return was;
    }

    int crack(int ring, int v) {
        if (out(ring, 0, 3) || out(v, 0, 4)) {
            return BAD;
        }
        int was = stove.crack[ring];
        stove.crack[ring] = v;
        return was;
    }

    int fire(int ring) {
        if (out(ring, 0, 2)) {
            return BAD;
        }
        int was = stove.fire;
        stove.fire = ring;
        return was;
    }

    int log(int size, int water) {
        if (out(size, 1, 50) || out(water, 0, 60)) {
            return BAD;
        }
        if (stove.logs.size() == 30) {
            return FULL;
        }
        stove.logs.add(new int[] {size, water});
        return stove.logs.size();
    }

    int ticks(int count) {
        if (out(count, 1, 60)) {
            return BAD;
        }
        for (int i = 0; i < count; i++) {
            stove.fiveSteps(door);
            for (Piece p : pieces) {
                if (p.ring != NONE) {
                    long takes = Math.min(15, stove.heat[p.ring][0]);
                    stove.heat[p.ring][0] -= takes;
                    given += takes;
                }
            }
            for (Piece p : pieces) {
                if (p.ring != NONE) {
                    p.seen += p.bread.look(p.seen.length() + 1, stove.heat[p.ring][0] / 10);
                }
            }
            door = false;
            gone++;
        }
        return stove.logs.size();
    }

    long heat(int ring, int layer, int what) {
        if (out(ring, 0, 3) || out(layer, 0, 2) || out(what, 0, 1)) {
            return BAD;
        }
        return what == 0 ? stove.heat[ring][layer] : stove.warmths()[ring][layer];
    }

    long sum(int what) {
        if (out(what, 0, 4)) {
            return BAD;
        }
        long held = 0;
        for (long[] ring : stove.heat) {
            held += ring[0] + ring[1] + ring[2];
        }
        return new long[] {stove.in, held, stove.lost, given, 4000}[what];
    }

    int kind(int places, boolean crown, int least, int most, int from, int to, int scorched) {
        if (out(places, 1, 3) || crown && places < 2 || out(least, 1, 30) || out(most, least, 60)
            || out(from, 0, 2000) || out(to, from, 2000) || out(scorched, 0, 9)) {
            return BAD;
        }
        if (breads.size() == 8) {
            return FULL;
        }
        Bread b = new Bread();
        b.places = places;
        b.crown = crown;
        b.least = least;
        b.most = most;
        b.from = from;
        b.to = to;
        b.may = scorched;
        breads.add(b);
        return breads.size() - 1;
    }

    int second(int kind, int behind, int from, int to) {
        if (out(kind, 0, breads.size() - 1) || out(behind, 1, 30) || out(from, 0, 2000) || out(to, from, 2000)) {
            return BAD;
        }
        Bread b = breads.get(kind);
        if (b.behind > 0) {
            return NOT;
        }
        for (Piece p : pieces) {
            if (p.kind == kind && p.ring != NONE) {
                return NOT;
            }
        }
        b.behind = behind;
        b.from2 = from;
        b.to2 = to;
        return 1;
    }

    static int used(List<Bread> together) {
        int big = 0, ones = 0, crowns = 0;
        for (Bread b : together) {
            big += b.places > 1 ? b.places : 0;
            ones += b.places == 1 ? 1 : 0;
            crowns += b.crown ? 1 : 0;
        }
        return big + (ones > crowns ? ones - crowns : 0);
    }

    private List<Bread> inRing(int ring) {
        List<Bread> all = new ArrayList<>();
        for (Piece p : pieces) {
            if (p.ring == ring) {
                all.add(p.bread);
            }
        }
        return all;
    }

    int inside() {
        int all = 0;
        for (Piece p : pieces) {
            all += p.ring != NONE ? 1 : 0;
        }
        return all;
    }

    int put(int kind, int ring) {
        if (out(kind, 0, breads.size() - 1) || out(ring, 0, 3)) {
            return BAD;
        }
        List<Bread> there = inRing(ring);
        there.add(breads.get(kind));
        if (used(there) > ROOM[ring]) {
            return NOT;
        }
        if (inside() == 12 || pieces.size() == 200) {
            return FULL;
        }
        Piece p = new Piece();
        p.bread = breads.get(kind);
        p.kind = kind;
        p.ring = ring;
        pieces.add(p);
        door = true;
        return pieces.size() - 1;
    }

    int move(int loaf, int ring) {
        if (out(loaf, 0, pieces.size() - 1) || out(ring, 0, 3) || pieces.get(loaf).ring == ring) {
            return BAD;
        }
        Piece p = pieces.get(loaf);
        if (p.ring == NONE) {
            return NOT;
        }
        List<Bread> there = inRing(ring);
        there.add(p.bread);
        List<Bread> here = inRing(p.ring);
        here.remove(p.bread);
        if (used(there) > ROOM[ring] || used(here) > ROOM[p.ring]) {
            return NOT;
        }
        int was = p.ring;
        p.ring = ring;
        door = true;
        return was;
    }

    int take(int loaf) {
        if (out(loaf, 0, pieces.size() - 1)) {
            return BAD;
        }
        Piece p = pieces.get(loaf);
        if (p.ring == NONE) {
            return NOT;
        }
        List<Bread> here = inRing(p.ring);
        here.remove(p.bread);
        if (used(here) > ROOM[p.ring]) {
            return NOT;
        }
        p.ring = NONE;
        door = true;
        good += p.result() == 1 ? 1 : 0;
        return p.result();
    }

    int loaf(int loaf, int what) {
        if (out(loaf, 0, pieces.size() - 1) || out(what, 0, 5)) {
            return BAD;
        }
        Piece p = pieces.get(loaf);
        return new int[] {p.kind, p.ring, p.seen.length(), p.often('r'), p.often('s'), p.often('p')}[what];
    }

    int room(int ring) {
        return out(ring, 0, 3) ? BAD : ROOM[ring] - used(inRing(ring));
    }

    int order(int kind) {
        if (out(kind, 0, breads.size() - 1)) {
            return BAD;
        }
        if (orders.size() == 4) {
            return FULL;
        }
        orders.add(kind);
        return orders.size() - 1;
    }

    int opening(int tick) {
        if (out(tick, 0, 40) || !openings.isEmpty() && tick <= openings.get(openings.size() - 1)) {
            return BAD;
        }
        if (openings.size() == 3) {
            return FULL;
        }
        openings.add(tick);
        return openings.size();
    }

    int clear() {
        int was = orders.size();
        orders.clear();
        openings.clear();
        return was;
    }

    /** The choices {in, out, ring} of an order, best first, without nothing. */
    private List<int[]> goodChoices(Bread bread, List<Integer> opens, long[][] ahead) {
        List<int[]> all = new ArrayList<>();
        for (int in : opens) {
            for (int outAt : opens) {
                for (int ring = 0; ring < 4 && outAt > in; ring++) {
                    Piece p = new Piece();
                    p.bread = bread;
                    for (int t = in; t < outAt; t++) {
                        p.seen += bread.look(t - in + 1, ahead[t][ring]);
                    }
                    if (p.result() == 1) {
                        all.add(new int[] {in, outAt, ring});
                    }
                }
            }
        }
        return all;
    }

    private boolean roomKept(int[][] plan) {
        for (int ring = 0; ring < 4; ring++) {
            for (int t = 0; t <= 40; t++) {
                List<Bread> there = new ArrayList<>();
                for (int o = 0; o < plan.length; o++) {
                    if (plan[o] != null && plan[o][2] == ring && plan[o][0] <= t && t < plan[o][1]) {
                        there.add(breads.get(orders.get(o)));
                    }
                }
                if (used(there) > ROOM[ring]) {
                    return false;
                }
            }
        }
        return true;
    }

    /** Writes out all plans, first ones first; a null in a plan is nothing. */
    int[][] thePlan(List<Integer> opens) {
        Stove s = stove.copy();
        long[][] ahead = new long[41][4];
        for (int t = 0; t <= 40; t++) {
            s.fiveSteps(opens.contains(t));
            for (int r = 0; r < 4; r++) {
                ahead[t][r] = s.heat[r][0] / 10;
            }
        }
        List<List<int[]>> choices = new ArrayList<>();
        for (int kind : orders) {
            List<int[]> some = goodChoices(breads.get(kind), opens, ahead);
            some.add(null);
            choices.add(some);
        }
        int[] at = new int[orders.size()];
        int[][] best = new int[orders.size()][];
        boolean more = true;
        while (more) {
            int[][] plan = new int[at.length][];
            for (int o = 0; o < at.length; o++) {
                plan[o] = choices.get(o).get(at[o]);
            }
            if (baked(plan) > baked(best) && roomKept(plan)) {
                best = plan;
            }
            int o = at.length - 1;
            while (o >= 0 && at[o] == choices.get(o).size() - 1) {
                at[o] = 0;
                o--;
            }
            more = o >= 0;
            if (more) {
                at[o]++;
            }
        }
        return best;
    }

    static int baked(int[][] plan) {
        int all = 0;
        for (int[] p : plan) {
            all += p != null ? 1 : 0;
        }
        return all;
    }

    int plan() {
        return inside() > 0 ? NOT : baked(thePlan(openings));
    }

    int planned(int order, int what) {
        if (out(order, 0, orders.size() - 1) || out(what, 0, 2)) {
            return BAD;
        }
        if (inside() > 0) {
            return NOT;
        }
        int[] mine = thePlan(openings)[order];
        return mine == null ? NONE : new int[] {mine[2], mine[0], mine[1]}[what];
    }

    int last(int what) {
        if (out(what, 0, 1)) {
            return BAD;
        }
        if (inside() > 0) {
            return NOT;
        }
        if (openings.size() == 3) {
            return FULL;
        }
        int tick = NONE, most = NONE;
        for (int t = openings.isEmpty() ? 0 : openings.get(openings.size() - 1) + 1; t <= 40; t++) {
            List<Integer> opens = new ArrayList<>(openings);
            opens.add(t);
            int bakes = baked(thePlan(opens));
            if (bakes > most) {
                most = bakes;
                tick = t;
            }
        }
        return what == 0 ? tick : most;
    }

    int wood(int v, int ring, int r, int size, int water) {
        if (out(v, 0, 2000) || out(ring, 0, 3) || out(r, 0, 40) || out(size, 1, 50) || out(water, 0, 60)) {
            return BAD;
        }
        if (inside() > 0) {
            return NOT;
        }
        for (int k = 1; k <= 30; k++) {
            Stove s = stove.copy();
            for (int i = 0; i < k; i++) {
                s.logs.add(new int[] {size, water});
            }
            int all = s.logs.size() + r;
            for (int i = 0; i < all; i++) {
                s.fiveSteps(false);
            }
            if (s.heat[ring][0] / 10 >= v) {
                return k;
            }
        }
        return NONE;
    }

    int households(int many) {
        if (out(many, 2, 8)) {
            return BAD;
        }
        int was = n;
        n = many;
        told.clear();
        return was;
    }

    int custom(int which, int withSeed) {
        if (out(which, 0, 1) || withSeed < 0) {
            return BAD;
        }
        custom = which;
        seed = withSeed;
        return 1;
    }

    int told(int week, int a, int b, boolean gift) {
        if (out(week, 0, 60) || out(a, 0, n - 1) || out(b, 0, n - 1) || a == b) {
            return BAD;
        }
        if (told.size() == 30) {
            return FULL;
        }
        told.add(new int[] {week, a, b, gift ? 1 : 0});
        return 1;
    }

    int slots(int v) {
        if (out(v, 1, 8)) {
            return BAD;
        }
        int was = slots;
        slots = v;
        return was;
    }

    private List<Integer> row(int week) {
        Integer[] row = new Integer[n];
        for (int i = 0; i < n; i++) {
            row[i] = custom == 0 ? (week + i) % n : i;
        }
        if (custom == 1) {
            java.math.BigInteger two31 = java.math.BigInteger.TWO.pow(31);
            java.math.BigInteger s = java.math.BigInteger.valueOf((long) seed + week).mod(two31);
            for (int k = n - 1; k >= 1; k--) {
                s = s.multiply(java.math.BigInteger.valueOf(1103515245)).add(java.math.BigInteger.valueOf(12345)).mod(two31);
                int other = s.divide(java.math.BigInteger.valueOf(65536)).mod(java.math.BigInteger.valueOf(k + 1)).intValue();
                Integer kept = row[k];
                row[k] = row[other];
                row[other] = kept;
            }
        }
        List<Integer> list = new ArrayList<>(Arrays.asList(row));
        for (int[] t : told) {
            if (t[0] == week) {
                int pa = list.indexOf(t[1]);
                int pb = list.indexOf(t[2]);
                if (t[3] == 1) {
                    list.remove(pb);
                    list.add(pa, t[2]);
                } else {
                    list.set(pa, t[2]);
                    list.set(pb, t[1]);
                }
            }
        }
        return list;
    }

    int at(int week, int place) {
        return out(week, 0, 60) || out(place, 0, n - 1) ? BAD : row(week).get(place);
    }

    int waits(int household, int from, int to, int what) {
        if (out(household, 0, n - 1) || out(from, 0, 60) || out(to, from, 60) || out(what, 0, 1)) {
            return BAD;
        }
        int waited = 0;
        for (int w = from; w <= to; w++) {
            int place = row(w).indexOf(household);
            if (what == 1 && place == 0) {
                return w;
            }
            waited += place >= slots ? 1 : 0;
        }
        return what == 1 ? NONE : waited;
    }

    int note(int week, int ring, int v) {
        if (out(week, 0, 60) || out(ring, 0, 3) || out(v, 0, 3)) {
            return BAD;
        }
        int was = notes[week][ring];
        notes[week][ring] = v;
        return was;
    }

    int lose(int week) {
        if (out(week, 0, 60)) {
            return BAD;
        }
        int had = 0;
        for (int v : notes[week]) {
            had += v != 0 ? 1 : 0;
        }
        notes[week] = new int[4];
        return had;
    }

    int bricks(int ring, int week) {
        if (out(ring, 0, 3) || out(week, 0, 60)) {
            return BAD;
        }
        if (bricks.size() == 10) {
            return FULL;
        }
        bricks.add(new int[] {ring, week});
        return bricks.size();
    }

    private int explained(int sort, int ring, int from) {
        int all = 0;
        for (int r = 0; r < 4; r++) {
            boolean wrong = false;
            for (int w = 0; w <= 60; w++) {
                if (sort > 0 && r == ring && w == from) {
                    wrong = true;
                }
                for (int[] b : bricks) {
                    if (b[0] == r && b[1] == w && w > from) {
                        wrong = false;
                    }
                }
                int tells = wrong ? sort == 1 ? 3 : 2 : 1;
                all += notes[w][r] == tells ? 1 : 0;
            }
        }
        return all;
    }

    int best(int what) {
        if (out(what, 0, 3)) {
            return BAD;
        }
        int[] best = {0, NONE, NONE, explained(0, 0, 0)};
        for (int sort = 1; sort <= 2; sort++) {
            for (int r = 0; r < 4; r++) {
                for (int f = 0; f <= 60; f++) {
                    if (explained(sort, r, f) > best[3]) {
                        best = new int[] {sort, r, f, explained(sort, r, f)};
                    }
                }
            }
        }
        return best[what];
    }

    int explains(int sort, int ring, int week) {
        if (out(sort, 0, 2) || out(ring, 0, 3) || out(week, 0, 60) || sort == 0 && (ring != 0 || week != 0)) {
            return BAD;
        }
        return explained(sort, ring, week);
    }

    int count(int what) {
        int known = 0;
        for (int[] week : notes) {
            for (int v : week) {
                known += v != 0 ? 1 : 0;
            }
        }
        int[] all = {stove.logs.size(), inside(), breads.size(), orders.size(), openings.size(), gone, good, known,
            told.size()};
        return out(what, 0, 8) ? BAD : all[what];
    }
}
