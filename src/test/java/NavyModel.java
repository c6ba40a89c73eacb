import java.math.BigInteger;
import java.nio.charset.StandardCharsets;
import java.util.ArrayList;
import java.util.Arrays;
import java.util.List;
import java.util.TreeSet;
import java.util.function.IntPredicate;
import java.util.regex.Matcher;
import java.util.regex.Pattern;

/**
 * The document once more, in the slowest and plainest way: each look ahead copies the whole navy and
 * lets watches go by. ModelTest asks it and NavyOfCats the same things.
 */
final class NavyModel {
    static final int LOW = -1000001;

    static final class Found extends RuntimeException {
        final int which;
        Found(int which) { super(null, null, false, false); this.which = which; }
    }

    static final class Beast {
        int kind; int hunger; int habit;
        Beast(int kind, int hunger, int habit) { this.kind = kind; this.hunger = hunger; this.habit = habit; }
    }

    static final class Vessel {
        int at; int order; TreeSet<Integer> aboard = new TreeSet<>();
    }

    static final class Fleet {
        List<Beast> beasts = new ArrayList<>();
        Vessel[] vessels = {new Vessel(), new Vessel(), new Vessel(), new Vessel()};
        TreeSet<Integer> islands = new TreeSet<>();
        int wind; int fish; int store = 100; int watch; int z = 1;
        Integer[] spots = new Integer[10];

        Fleet twin() {
            Fleet f = new Fleet();
            for (Beast b : beasts) f.beasts.add(new Beast(b.kind, b.hunger, b.habit));
            for (int i = 0; i < 4; i++) {
                f.vessels[i].at = vessels[i].at;
                f.vessels[i].order = vessels[i].order;
                f.vessels[i].aboard = new TreeSet<>(vessels[i].aboard);
            }
            f.islands = new TreeSet<>(islands);
            f.wind = wind; f.fish = fish; f.store = store; f.watch = watch; f.z = z;
            f.spots = spots.clone();
            return f;
        }

        int errs(int cat) {
            Beast b = beasts.get(cat);
            return errs(b.kind, b);
        }

        private int errs(int kind, Beast b) {
            int t = watch % 16;
            switch (kind) {
                case 0: return b.hunger / 10;
                case 1: return errs(0, b) + (BigInteger.valueOf(fish).testBit(t) ? 2 : 0);
                case 2: return errs(0, b) + (t % 5 - 2);
                case 3: return b.hunger >= 50 ? b.habit : errs(1, b);
                case 4: return 16 - errs(3, b);
                case 5: return errs(0, b) / 2;
                case 6: return errs(2, b) + 1;
                default: throw new IllegalStateException();
            }
        }

        int mean(TreeSet<Integer> cats) {
            int sum = 0;
            for (int c : cats) sum += errs(c);
            return cats.isEmpty() ? 0 : sum / cats.size();
        }

        int course(int ship) {
            int c = vessels[ship].order + mean(vessels[ship].aboard);
            while (c < 0) c += 32;
            while (c >= 32) c -= 32;
            return c;
        }

        /** -1: no such cell. */
        static int neighbour(int cell, int heading) {
            int x = cell % 10;
            int y = cell / 10;
            if (heading == 7 || heading == 0 || heading == 1) y--;
            if (heading == 3 || heading == 4 || heading == 5) y++;
            if (heading == 1 || heading == 2 || heading == 3) x++;
            if (heading == 5 || heading == 6 || heading == 7) x--;
            return x < 0 || y < 0 || x > 9 || y > 9 ? -1 : 10 * y + x;
        }

        boolean landed(int ship) { return islands.contains(vessels[ship].at); }

        int next(int ship) {
            int heading = ((course(ship) + 2) / 4) % 8;
            int there = neighbour(vessels[ship].at, heading);
            if (there < 0 || heading == wind || landed(ship)) return vessels[ship].at;
            return there;
        }

        void pass() {
            int[] next = {next(0), next(1), next(2), next(3)};
            for (int i = 0; i < 4; i++) vessels[i].at = next[i];
            for (Beast b : beasts) if (b.hunger < 99) b.hunger++;
            watch++;
        }

        Fleet behind(int n) {
            Fleet f = twin();
            for (int i = 0; i < n; i++) f.pass();
            return f;
        }

        void storm() {
            for (int i = 0; i < 4; i++) {
                if (landed(i)) continue;
                z = BigInteger.valueOf(z).multiply(BigInteger.valueOf(1103515245)).add(BigInteger.valueOf(12345)).intValue();
                int there = neighbour(vessels[i].at, (z >>> 8) % 8);
                if (there >= 0) vessels[i].at = there;
            }
            pass();
        }

        int landsWithin(int ship, int most) {
            Fleet f = twin();
            for (int n = 0; n <= most; n++) {
                if (f.landed(ship)) return n;
                f.pass();
            }
            return -1;
        }

        int howManyLanded() {
            int n = 0;
            for (int i = 0; i < 4; i++) if (landed(i)) n++;
            return n;
        }
    }

    private Fleet fleet = new Fleet();
    private Fleet kept = null;
    private final ArrayList<Integer> tape = new ArrayList<>();
    private final long[][] sheets = new long[4][];
    private final int[] bits = new int[4];
    final int[] counts = new int[7];

    private static void need(boolean holds, int finding) {
        if (!holds) throw new Found(finding);
    }
    private static void beyond(boolean holds) { need(holds, 0); }
    private static boolean in(int v, int a, int b) { return a <= v && v <= b; }
    private void isCat(int c) { beyond(c >= 0 && c < fleet.beasts.size()); }
    private void isShip(int s) { beyond(in(s, 0, 3)); }
    private static TreeSet<Integer> members(int set) {
        TreeSet<Integer> m = new TreeSet<>();
        for (int i = 0; i < 32; i++) if ((set & 1 << i) != 0) m.add(i);
        return m;
    }
    private static int bitsOf(TreeSet<Integer> m) {
        int set = 0;
        for (int i : m) set |= 1 << i;
        return set;
    }
    private TreeSet<Integer> cats(int set) {
        TreeSet<Integer> m = members(set);
        for (int c : m) isCat(c);
        return m;
    }
    private void hasSheet(int s) {
        beyond(in(s, 0, 3));
        need(sheets[s] != null, 5);
    }

    public int cat(int kind) {
        beyond(in(kind, 0, 6));
        need(fleet.beasts.size() < 8, 1);
        fleet.beasts.add(new Beast(kind, 0, 0));
        return fleet.beasts.size() - 1;
    }
    public int of(int cat, int what) {
        isCat(cat);
        beyond(in(what, 0, 3));
        Beast b = fleet.beasts.get(cat);
        return new int[] {b.kind, b.hunger, b.habit, fleet.errs(cat)}[what];
    }
    public int change(int cat, int what, int v) {
        int was = of(cat, what);
        beyond(what != 3);
        beyond(what != 0 || in(v, 0, 6));
        beyond(what != 1 || in(v, 0, 99));
        beyond(what != 2 || in(v, -15, 15));
        Beast b = fleet.beasts.get(cat);
        if (what == 0) b.kind = v; else if (what == 1) b.hunger = v; else b.habit = v;
        return was;
    }
    public int ship(int ship, int what) {
        isShip(ship);
        beyond(in(what, 0, 6));
        Vessel v = fleet.vessels[ship];
        return new int[] {v.at, v.order, bitsOf(v.aboard), fleet.mean(v.aboard), fleet.course(ship),
            fleet.behind(1).vessels[ship].at, fleet.landed(ship) ? 1 : 0}[what];
    }
    public int steer(int ship, int what, int v) {
        int was = ship(ship, what);
        beyond(in(what, 0, 2));
        Vessel it = fleet.vessels[ship];
        if (what == 0) { beyond(in(v, 0, 99)); it.at = v; }
        if (what == 1) { beyond(in(v, 0, 31)); it.order = v; }
        if (what == 2) it.aboard = cats(v);
        return was;
    }
    public int island(int cell, int is) {
        beyond(in(cell, 0, 99));
        beyond(is == 0 || is == 1);
        return (is == 1 ? fleet.islands.add(cell) : fleet.islands.remove(cell)) ? 1 : 0;
    }
    public int wind(int v) { beyond(in(v, 0, 7)); int was = fleet.wind; fleet.wind = v; return was; }
    public int fish(int v) { beyond(in(v, 0, 65535)); int was = fleet.fish; fleet.fish = v; return was; }
    public int store(int v) { beyond(in(v, 0, 9999)); int was = fleet.store; fleet.store = v; return was; }
    public int go(int n) {
        beyond(in(n, 1, 60));
        need(fleet.watch + n <= 99999, 4);
        fleet = fleet.behind(n);
        return fleet.howManyLanded();
    }
    public int feeds(int set) {
        TreeSet<Integer> m = cats(set);
        need(fleet.store >= m.size(), 4);
        for (int c : m) { fleet.beasts.get(c).hunger = 0; fleet.store--; }
        return fleet.store;
    }
    public int now(int what) {
        beyond(in(what, 0, 5));
        int set = 0;
        for (int i = 0; i < 4; i++) if (fleet.landed(i)) set += 1 << i;
        int most = 0;
        for (Beast b : fleet.beasts) most = Math.max(most, b.hunger);
        return new int[] {fleet.watch, fleet.store, fleet.wind, set, most, fleet.islands.size()}[what];
    }
    public int ahead(int ship, int n) {
        isShip(ship);
        beyond(in(n, 0, 200));
        return fleet.behind(n).vessels[ship].at;
    }
    public int lands(int ship) {
        isShip(ship);
        int n = fleet.landsWithin(ship, 200);
        need(n >= 0, 3);
        return n;
    }
    public int meets(int a, int b) {
        isShip(a); isShip(b);
        beyond(a != b);
        Fleet f = fleet.twin();
        for (int n = 0; n <= 200; n++) {
            if (f.vessels[a].at == f.vessels[b].at) return n;
            f.pass();
        }
        throw new Found(3);
    }
    public int still() {
        Fleet f = fleet;
        for (int n = 0; n <= 60; n++) {
            Fleet g = f.behind(1);
            boolean same = true;
            for (int i = 0; i < 4; i++) same &= f.vessels[i].at == g.vessels[i].at;
            if (same) return n;
            f = g;
        }
        throw new Found(3);
    }
    public int sits(int cat, int n) {
        isCat(cat);
        beyond(in(n, 0, 200));
        return fleet.behind(n).errs(cat);
    }

    private int landsBy(int ship, int order, int wind) {
        Fleet f = fleet.twin();
        f.vessels[ship].order = order;
        f.wind = wind;
        return f.landsWithin(ship, 60);
    }
    private int[] quickest(int ship) {
        int[] best = null;
        for (int o = 31; o >= 0; o--) {
            int n = landsBy(ship, o, fleet.wind);
            if (n >= 0 && (best == null || n <= best[1])) best = new int[] {o, n};
        }
        need(best != null, 3);
        return best;
    }
    public int order(int ship) { isShip(ship); return quickest(ship)[0]; }
    public int soonest(int ship) { isShip(ship); return quickest(ship)[1]; }
    public long orders(int ship, int cell) {
        isShip(ship);
        beyond(in(cell, 0, 99));
        need(fleet.islands.contains(cell), 4);
        long set = 0;
        for (int o = 0; o < 32; o++) {
            Fleet f = fleet.twin();
            f.vessels[ship].order = o;
            if (f.behind(60).vessels[ship].at == cell) set += 1L << o;
        }
        return set;
    }
    private int[] sure(int ship) {
        int[] best = null;
        for (int o = 31; o >= 0; o--) {
            int n = 0;
            for (int w = 0; w < 8; w++) if (landsBy(ship, o, w) >= 0) n++;
            if (best == null || n >= best[1]) best = new int[] {o, n};
        }
        return best;
    }
    public int surest(int ship) { isShip(ship); return sure(ship)[0]; }
    public int winds(int ship) { isShip(ship); return sure(ship)[1]; }
    public int windFor(int ship) {
        isShip(ship);
        int best = -1;
        int fewest = 99;
        for (int w = 7; w >= 0; w--) {
            int n = landsBy(ship, fleet.vessels[ship].order, w);
            if (n >= 0 && n <= fewest) { fewest = n; best = w; }
        }
        need(best >= 0, 3);
        return best;
    }

    public int crew(int k) {
        beyond(in(k, 1, 8));
        need(fleet.beasts.size() >= k, 3);
        int best = -1;
        int away = 9999;
        for (int set = 255; set >= 0; set--) {
            TreeSet<Integer> m = members(set);
            if (m.size() != k || m.last() >= fleet.beasts.size()) continue;
            int a = Math.abs(fleet.mean(m));
            if (a <= away) { away = a; best = set; }
        }
        return best;
    }
    public int mean(int k) { return fleet.mean(members(crew(k))); }
    public int better(int ship) {
        isShip(ship);
        need(!fleet.beasts.isEmpty(), 3);
        int best = -1;
        int away = 9999;
        for (int c = fleet.beasts.size() - 1; c >= 0; c--) {
            TreeSet<Integer> m = new TreeSet<>(fleet.vessels[ship].aboard);
            if (!m.remove(c)) m.add(c);
            int a = Math.abs(fleet.mean(m));
            if (a <= away) { away = a; best = c; }
        }
        return best;
    }
    public int spy(int ship, int cat, int n) {
        isShip(ship); isCat(cat);
        beyond(in(n, 0, 40));
        need(fleet.vessels[ship].aboard.contains(cat), 4);
        int due = fleet.behind(n).vessels[ship].at;
        int best = -1;
        int far = -1;
        for (int k = 6; k >= 0; k--) {
            Fleet f = fleet.twin();
            f.beasts.get(cat).kind = k;
            int is = f.behind(n).vessels[ship].at;
            int d = Math.abs(is / 10 - due / 10) + Math.abs(is % 10 - due % 10);
            if (d >= far) { far = d; best = k; }
        }
        return best;
    }

    public int uses(int n, int h) {
        beyond(in(n, 0, 200));
        beyond(in(h, 1, 99));
        Fleet f = fleet.twin();
        int used = 0;
        for (int i = 0; i < n; i++) {
            for (Beast b : f.beasts) if (b.hunger >= h) { b.hunger = 0; used++; }
            f.pass();
        }
        return used;
    }
    public int hunger(int n) {
        beyond(in(n, 0, 200));
        for (int h = 1; h <= 99; h++) if (uses(n, h) <= fleet.store) return h;
        throw new Found(3);
    }

    private boolean agrees(int s, Fleet now, java.util.function.ToIntFunction<Fleet> told, IntPredicate free) {
        Fleet f = now.twin();
        for (long v : sheets[s]) {
            if (!free.test((int) v) && v != told.applyAsInt(f)) return false;
            f.pass();
        }
        return true;
    }
    public int kinds(int s, int cat) {
        hasSheet(s);
        isCat(cat);
        int set = 0;
        for (int k = 0; k < 7; k++) {
            Fleet f = fleet.twin();
            f.beasts.get(cat).kind = k;
            if (agrees(s, f, g -> g.errs(cat), v -> false)) set += 1 << k;
        }
        return set;
    }
    public int habits(int s, int cat) {
        hasSheet(s);
        isCat(cat);
        int n = 0;
        for (int h = -15; h <= 15; h++) {
            Fleet f = fleet.twin();
            f.beasts.get(cat).habit = h;
            if (agrees(s, f, g -> g.errs(cat), v -> false)) n++;
        }
        return n;
    }
    private TreeSet<Integer> begins(int s, int ship) {
        hasSheet(s);
        isShip(ship);
        TreeSet<Integer> cells = new TreeSet<>();
        for (int c = 0; c < 100; c++) {
            Fleet f = fleet.twin();
            f.vessels[ship].at = c;
            if (agrees(s, f, g -> g.vessels[ship].at / 10, v -> v == -1)) cells.add(c);
        }
        return cells;
    }
    public int begun(int s, int ship) { return begins(s, ship).size(); }
    public int from(int s, int ship) {
        TreeSet<Integer> cells = begins(s, ship);
        need(!cells.isEmpty(), 3);
        return cells.first();
    }

    public int storms(int n) {
        beyond(in(n, 1, 20));
        need(fleet.watch + n <= 99999, 4);
        for (int i = 0; i < n; i++) fleet.storm();
        return fleet.howManyLanded();
    }
    public int odds(int ship, int what) {
        isShip(ship);
        beyond(what == 0 || what == 1);
        int n = 0;
        for (int h = 0; h < 8; h++) {
            int there = Fleet.neighbour(fleet.vessels[ship].at, h);
            if (fleet.landed(ship) || fleet.islands.contains(there)) n++;
        }
        int d = BigInteger.valueOf(n).gcd(BigInteger.valueOf(8)).intValue();
        return what == 0 ? n / d : 8 / d;
    }
    public long drives(int n) {
        beyond(in(n, 0, 20));
        return BigInteger.valueOf(8).pow(n).longValueExact();
    }
    public int seed(int v) { int was = fleet.z; fleet.z = v; return was; }

    public int feed(int number, int n) {
        beyond(in(n, 1, 4));
        need(tape.size() + n <= 120, 1);
        int[] four = {number >>> 24, number >>> 16 & 255, number >>> 8 & 255, number & 255};
        for (int i = 4 - n; i < 4; i++) tape.add(four[i]);
        return tape.size();
    }
    public int wipe() { int had = tape.size(); tape.clear(); return had; }

    private static final Pattern TOKEN = Pattern.compile("[a-z]+|[0-9]+|;|-");
    private static final List<String> KINDS = List.of("cat", "tom", "kitten", "old", "prize", "blind", "black");

    static final class Fault extends RuntimeException {
        final int place;
        Fault(int place) { super(null, null, false, false); this.place = place; }
    }

    private final class Text {
        final Fleet told = fleet.twin();
        final String all;
        int at = 0;

        Text(String all) { this.all = all; }

        void skip() { while (at < all.length() && all.charAt(at) == ' ') at++; }
        String peek() {
            skip();
            if (at == all.length()) return "";
            Matcher m = TOKEN.matcher(all).region(at, all.length());
            if (!m.lookingAt()) throw new Fault(at);
            return m.group();
        }
        boolean take(String word) {
            if (!peek().equals(word)) return false;
            at += word.length();
            return true;
        }
        int number(int most) {
            String t = peek();
            if (!t.matches("[0-9]+") || new BigInteger(t).compareTo(BigInteger.valueOf(most)) > 0) throw new Fault(at);
            at += t.length();
            return Integer.parseInt(t.replaceFirst("^0+(?=.)", ""));
        }
        void item() {
            String word = peek();
            if (KINDS.contains(word)) {
                if (told.beasts.size() == 8) throw new Fault(at);
                take(word);
                Beast b = new Beast(KINDS.indexOf(word), 0, 0);
                if (take("hunger")) b.hunger = number(99);
                if (take("habit")) b.habit = take("-") ? -number(15) : number(15);
                told.beasts.add(b);
            } else if (take("island")) {
                told.islands.add(number(99));
            } else if (take("ship")) {
                Vessel v = told.vessels[number(3)];
                if (take("at")) v.at = number(99);
                if (take("order")) v.order = number(31);
                if (take("aboard")) v.aboard = members(number((1 << told.beasts.size()) - 1));
            } else if (take("wind")) {
                told.wind = number(7);
            } else if (take("fish")) {
                told.fish = number(65535);
            } else if (take("store")) {
                told.store = number(9999);
            } else {
                throw new Fault(at);
            }
        }
        int items() {
            int n = 1;
            item();
            while (take(";")) { item(); n++; }
            if (!peek().isEmpty()) throw new Fault(at);
            return n;
        }
    }

    public int text() {
        byte[] raw = new byte[tape.size()];
        for (int i = 0; i < raw.length; i++) raw[i] = (byte) (int) tape.get(i);
        tape.clear();
        Text text = new Text(new String(raw, StandardCharsets.ISO_8859_1));
        try {
            int n = text.items();
            fleet = text.told;
            return n;
        } catch (Fault f) {
            return -1 - f.place;
        }
    }

    public int hold(int spot, int cat) {
        beyond(in(spot, 0, 9));
        if (cat != -1) isCat(cat);
        fleet.spots[spot] = cat == -1 ? null : cat;
        return 1;
    }
    public int as(int spot, int kind) {
        beyond(in(spot, 0, 9));
        beyond(in(kind, 0, 6));
        need(fleet.spots[spot] != null, 5);
        int cat = fleet.spots[spot];
        List<List<Integer>> above = List.of(List.of(0), List.of(1, 0), List.of(2, 0), List.of(3, 1, 0),
            List.of(4, 3, 1, 0), List.of(5, 0), List.of(6, 2, 0));
        need(above.get(fleet.beasts.get(cat).kind).contains(kind), 2);
        return cat;
    }
    public int sheet(int s, int b, int n) {
        beyond(in(s, 0, 3));
        beyond(List.of(0, 8, 16, 32).contains(b));
        need(n >= 0, 6);
        beyond(n <= 40);
        sheets[s] = b == 0 ? null : new long[n];
        bits[s] = b;
        return b == 0 ? 0 : n;
    }
    public int write(int s, int i, int v) {
        hasSheet(s);
        beyond(i >= 0 && i < sheets[s].length);
        long low = v & (1L << bits[s]) - 1;
        sheets[s][i] = low >= 1L << bits[s] - 1 ? low - (1L << bits[s]) : low;
        return 1;
    }
    public int copy(int s, int from, int t, int to, int n) {
        beyond(in(s, 0, 3));
        beyond(in(t, 0, 3));
        need(sheets[s] != null && sheets[t] != null, 5);
        need(bits[s] == bits[t], 2);
        beyond(from >= 0 && to >= 0 && n >= 0);
        beyond((long) from + n <= sheets[s].length && (long) to + n <= sheets[t].length);
        long[] were = Arrays.copyOfRange(sheets[s], from, from + n);
        for (int i = 0; i < n; i++) sheets[t][to + i] = were[i];
        return n;
    }
    public int load(int s) {
        hasSheet(s);
        int i = 0;
        while (i < sheets[s].length && i < fleet.beasts.size() && sheets[s][i] >= 0 && sheets[s][i] <= 99) {
            fleet.beasts.get(i).hunger = (int) sheets[s][i];
            i++;
        }
        return i;
    }
    public int judge(int s) {
        hasSheet(s);
        for (int i = 0; i < sheets[s].length; i++) {
            if (fleet.behind(i).vessels[0].at != sheets[s][i]) return 1 + i;
        }
        return 0;
    }

    public int image() { kept = fleet.twin(); return 1; }
    public int undo() { need(kept != null, 3); fleet = kept.twin(); return fleet.watch; }
    public int tear() { int was = kept == null ? 0 : 1; kept = null; return was; }
    public int count(int what) {
        beyond(in(what, 0, 7));
        int all = 0;
        for (Beast b : fleet.beasts) all += b.hunger;
        int held = 0;
        for (Integer s : fleet.spots) if (s != null) held++;
        return new int[] {fleet.watch, fleet.beasts.size(), fleet.islands.size(), fleet.howManyLanded(), all,
            tape.size(), fleet.z, held}[what];
    }
    public int status(int which) {
        beyond(in(which, -1, 6));
        return which < 0 ? Arrays.stream(counts).sum() : counts[which];
    }
}
