import java.util.Arrays;

/** A navy that steers by cats. The document ../shared/DOC.md says what each call answers. */
public final class NavyOfCats {
    private static final int BEYOND = -1000001;
    private static final int FULL = BEYOND - 1;
    private static final int KIND = BEYOND - 2;
    private static final int NONE = BEYOND - 3;
    private static final int STATE = BEYOND - 4;
    private static final int MISSING = BEYOND - 5;
    private static final int SIZE = BEYOND - 6;
    private static final int FINDINGS = 7;

    private static final int CELLS = 100;
    private static final int SIDE = 10;
    private static final int POINTS = 32;
    private static final int WINDS = 8;
    private static final int SHIPS = 4;
    private static final int MOST_CATS = 8;
    private static final int MOST_HUNGER = 99;
    private static final int MOST_HABIT = 15;
    private static final int MOST_FISH = 65535;
    private static final int MOST_STORE = 9999;
    private static final int MOST_WATCH = 99999;
    private static final int WATCHES_A_DAY = 16;
    private static final int SPOTS = 10;
    private static final int SHEETS = 4;
    private static final int MOST_NUMBERS = 40;
    private static final int MOST_BYTES = 120;
    private static final int MOST_NUMBER = 99999;

    /** How far calls look ahead: where a ship will be, and what an order leads to. */
    private static final int FAR = 200;
    private static final int NEAR = 60;

    private static final int CAT = 0;
    private static final int TOM = 1;
    private static final int KITTEN = 2;
    private static final int OLD = 3;
    private static final int PRIZE = 4;
    private static final int BLIND = 5;
    private static final int BLACK = 6;
    private static final int KINDS = 7;
    /** The kind that each is under; -1: none. */
    private static final int[] KIND_ABOVE = {-1, 0, 0, 1, 3, 0, 2};

    /** The eight headings, from north on by the east. */
    private static final int[] ROWS_ON = {-1, -1, 0, 1, 1, 1, 0, -1};
    private static final int[] COLUMNS_ON = {0, 1, 1, 1, 0, -1, -1, -1};

    private final Navy navy = new Navy();
    private final Navy kept = new Navy();
    private boolean isKept;
    private final Tape tape = new Tape();
    private final Reader reader = new Reader();
    private final Sheet[] sheets = new Sheet[SHEETS];
    private final int[] found = new int[FINDINGS];
    /** What one ship reads ahead of each watch to come; made once and used by every search. */
    private final int[] reads = new int[NEAR];
    private final int[] places = new int[SHIPS];

    public NavyOfCats() {
        for (int s = 0; s < SHEETS; s++) {
            sheets[s] = new Sheet();
        }
    }

    // ---- cats, ships, the sea

    public int cat(int kind) {
        if (!isKind(kind)) {
            return finding(BEYOND);
        }
        if (navy.cats >= MOST_CATS) {
            return finding(FULL);
        }
        return navy.addCat(kind, 0, 0);
    }

    public int of(int cat, int what) {
        if (!isCat(cat)) {
            return finding(BEYOND);
        }
        switch (what) {
            case 0: return navy.kindOf[cat];
            case 1: return navy.hungerOf[cat];
            case 2: return navy.habitOf[cat];
            case 3: return navy.errs(cat, 0);
            default: return finding(BEYOND);
        }
    }

    public int change(int cat, int what, int v) {
        if (!isCat(cat)) {
            return finding(BEYOND);
        }
        if (what == 0 && isKind(v)) {
            return put(navy.kindOf, cat, v);
        }
        if (what == 1 && isWithin(v, 0, MOST_HUNGER)) {
            return put(navy.hungerOf, cat, v);
        }
        if (what == 2 && isWithin(v, -MOST_HABIT, MOST_HABIT)) {
            return put(navy.habitOf, cat, v);
        }
        return finding(BEYOND);
    }

    public int ship(int ship, int what) {
        if (!isShip(ship)) {
            return finding(BEYOND);
        }
        switch (what) {
            case 0: return navy.cellOf[ship];
            case 1: return navy.orderOf[ship];
            case 2: return navy.aboardOf[ship];
            case 3: return navy.meanOf(navy.aboardOf[ship], 0);
            case 4: return course(navy.orderOf[ship], navy.meanOf(navy.aboardOf[ship], 0));
            case 5: return navy.nextOf(ship, navy.cellOf[ship], 0);
            case 6: return navy.isLanded(ship) ? 1 : 0;
            default: return finding(BEYOND);
        }
    }

    public int steer(int ship, int what, int v) {
        if (!isShip(ship)) {
            return finding(BEYOND);
        }
        if (what == 0 && isCell(v)) {
            return put(navy.cellOf, ship, v);
        }
        if (what == 1 && isWithin(v, 0, POINTS - 1)) {
            return put(navy.orderOf, ship, v);
        }
        if (what == 2 && isSetOfCats(v)) {
            return put(navy.aboardOf, ship, v);
        }
        return finding(BEYOND);
    }

    public int island(int cell, int is) {
        if (!isCell(cell) || !isWithin(is, 0, 1)) {
            return finding(BEYOND);
        }
        boolean was = navy.isIsland[cell];
        navy.isIsland[cell] = is == 1;
        return was == (is == 1) ? 0 : 1;
    }

    public int wind(int v) {
        if (!isWithin(v, 0, WINDS - 1)) {
            return finding(BEYOND);
        }
        int was = navy.windNow;
        navy.windNow = v;
        return was;
    }

    public int fish(int set) {
        if (!isWithin(set, 0, MOST_FISH)) {
            return finding(BEYOND);
        }
        int was = navy.fishWatches;
        navy.fishWatches = set;
        return was;
    }

    public int store(int v) {
        if (!isWithin(v, 0, MOST_STORE)) {
            return finding(BEYOND);
        }
        int was = navy.stored;
        navy.stored = v;
        return was;
    }

    // ---- watches

    public int go(int n) {
        if (!isWithin(n, 1, NEAR)) {
            return finding(BEYOND);
        }
        if (navy.watch > MOST_WATCH - n) {
            return finding(STATE);
        }
        for (int i = 0; i < n; i++) {
            navy.passWatch();
        }
        return Integer.bitCount(navy.landedShips());
    }

    public int feeds(int cats) {
        if (!isSetOfCats(cats)) {
            return finding(BEYOND);
        }
        int fed = Integer.bitCount(cats);
        if (navy.stored < fed) {
            return finding(STATE);
        }
        for (int cat = 0; cat < navy.cats; cat++) {
            if (isIn(cats, cat)) {
                navy.hungerOf[cat] = 0;
            }
        }
        navy.stored -= fed;
        return navy.stored;
    }

    public int now(int what) {
        switch (what) {
            case 0: return navy.watch;
            case 1: return navy.stored;
            case 2: return navy.windNow;
            case 3: return navy.landedShips();
            case 4: return navy.greatestHunger();
            case 5: return navy.islands();
            default: return finding(BEYOND);
        }
    }

    // ---- what will be (nothing changes)

    public int ahead(int ship, int n) {
        if (!isShip(ship) || !isWithin(n, 0, FAR)) {
            return finding(BEYOND);
        }
        return navy.cellBehind(ship, n);
    }

    public int lands(int ship) {
        if (!isShip(ship)) {
            return finding(BEYOND);
        }
        int cell = navy.cellOf[ship];
        for (int n = 0; n <= FAR; n++) {
            if (navy.isIsland[cell]) {
                return n;
            }
            cell = navy.nextOf(ship, cell, n);
        }
        return finding(NONE);
    }

    public int meets(int a, int b) {
        if (!isShip(a) || !isShip(b) || a == b) {
            return finding(BEYOND);
        }
        int cellOfA = navy.cellOf[a];
        int cellOfB = navy.cellOf[b];
        for (int n = 0; n <= FAR; n++) {
            if (cellOfA == cellOfB) {
                return n;
            }
            cellOfA = navy.nextOf(a, cellOfA, n);
            cellOfB = navy.nextOf(b, cellOfB, n);
        }
        return finding(NONE);
    }

    public int still() {
        System.arraycopy(navy.cellOf, 0, places, 0, SHIPS);
        for (int n = 0; n <= NEAR; n++) {
            if (!movesPlaces(n)) {
                return n;
            }
        }
        return finding(NONE);
    }

    /** The places of all ships behind n watches become those behind one more: whether one moved. */
    private boolean movesPlaces(int n) {
        boolean moved = false;
        for (int ship = 0; ship < SHIPS; ship++) {
            int next = navy.nextOf(ship, places[ship], n);
            if (next != places[ship]) {
                moved = true;
            }
            places[ship] = next;
        }
        return moved;
    }

    public int sits(int cat, int n) {
        if (!isCat(cat) || !isWithin(n, 0, FAR)) {
            return finding(BEYOND);
        }
        return navy.errs(cat, n);
    }

    // ---- orders

    public int order(int ship) {
        if (!isShip(ship)) {
            return finding(BEYOND);
        }
        int best = quickestOrder(ship);
        return best < 0 ? finding(NONE) : best;
    }

    public int soonest(int ship) {
        if (!isShip(ship)) {
            return finding(BEYOND);
        }
        int best = quickestOrder(ship);
        return best < 0 ? finding(NONE) : landsBehind(ship, best, navy.windNow);
    }

    public long orders(int ship, int cell) {
        if (!isShip(ship) || !isCell(cell)) {
            return finding(BEYOND);
        }
        if (!navy.isIsland[cell]) {
            return finding(STATE);
        }
        readAhead(ship, NEAR);
        long set = 0;
        for (int order = 0; order < POINTS; order++) {
            if (endsAt(ship, order) == cell) {
                set |= 1L << order;
            }
        }
        return set;
    }

    public int surest(int ship) {
        if (!isShip(ship)) {
            return finding(BEYOND);
        }
        return surestOrder(ship);
    }

    public int winds(int ship) {
        if (!isShip(ship)) {
            return finding(BEYOND);
        }
        return windsThatLand(ship, surestOrder(ship));
    }

    public int windFor(int ship) {
        if (!isShip(ship)) {
            return finding(BEYOND);
        }
        readAhead(ship, NEAR);
        int best = -1;
        int fewest = NEAR + 1;
        for (int wind = 0; wind < WINDS; wind++) {
            int n = landsBehind(ship, navy.orderOf[ship], wind);
            if (n >= 0 && n < fewest) {
                fewest = n;
                best = wind;
            }
        }
        return best < 0 ? finding(NONE) : best;
    }

    /** The order that lands a ship behind the fewest watches, or -1; reads are those of the ship then. */
    private int quickestOrder(int ship) {
        readAhead(ship, NEAR);
        int best = -1;
        int fewest = NEAR + 1;
        for (int order = 0; order < POINTS; order++) {
            int n = landsBehind(ship, order, navy.windNow);
            if (n >= 0 && n < fewest) {
                fewest = n;
                best = order;
            }
        }
        return best;
    }

    /** The order that lands a ship by most winds; reads are those of the ship then. */
    private int surestOrder(int ship) {
        readAhead(ship, NEAR);
        int best = 0;
        int most = -1;
        for (int order = 0; order < POINTS; order++) {
            int n = windsThatLand(ship, order);
            if (n > most) {
                most = n;
                best = order;
            }
        }
        return best;
    }

    private int windsThatLand(int ship, int order) {
        int many = 0;
        for (int wind = 0; wind < WINDS; wind++) {
            if (landsBehind(ship, order, wind) >= 0) {
                many++;
            }
        }
        return many;
    }

    private void readAhead(int ship, int n) {
        for (int i = 0; i < n && i < reads.length; i++) {
            reads[i] = navy.meanOf(navy.aboardOf[ship], i);
        }
    }

    /** Behind how many watches, 60 at most, a ship is landed by an order and a wind, or -1; it goes by reads. */
    private int landsBehind(int ship, int order, int wind) {
        int cell = navy.cellOf[ship];
        for (int n = 0; n < NEAR; n++) {
            if (navy.isIsland[cell]) {
                return n;
            }
            cell = navy.nextBy(cell, course(order, reads[n]), wind);
        }
        return navy.isIsland[cell] ? NEAR : -1;
    }

    /** Where a ship is behind 60 watches by an order; it goes by reads. */
    private int endsAt(int ship, int order) {
        int cell = navy.cellOf[ship];
        for (int n = 0; n < NEAR; n++) {
            cell = navy.nextBy(cell, course(order, reads[n]), navy.windNow);
        }
        return cell;
    }

    // ---- who is aboard

    public int crew(int k) {
        if (!isWithin(k, 1, MOST_CATS)) {
            return finding(BEYOND);
        }
        if (navy.cats < k) {
            return finding(NONE);
        }
        return bestCrew(k);
    }

    public int mean(int k) {
        if (!isWithin(k, 1, MOST_CATS)) {
            return finding(BEYOND);
        }
        if (navy.cats < k) {
            return finding(NONE);
        }
        return navy.meanOf(bestCrew(k), 0);
    }

    private int bestCrew(int k) {
        int best = 0;
        int nearest = -1;
        for (int set = 1; set < 1 << navy.cats; set++) {
            if (Integer.bitCount(set) == k) {
                int away = Math.abs(navy.meanOf(set, 0));
                if (nearest < 0 || away < nearest) {
                    nearest = away;
                    best = set;
                }
            }
        }
        return best;
    }

    public int better(int ship) {
        if (!isShip(ship)) {
            return finding(BEYOND);
        }
        if (navy.cats == 0) {
            return finding(NONE);
        }
        int best = 0;
        int nearest = -1;
        for (int cat = 0; cat < navy.cats; cat++) {
            int away = Math.abs(navy.meanOf(navy.aboardOf[ship] ^ 1 << cat, 0));
            if (nearest < 0 || away < nearest) {
                nearest = away;
                best = cat;
            }
        }
        return best;
    }

    public int spy(int ship, int cat, int n) {
        if (!isShip(ship) || !isCat(cat) || !isWithin(n, 0, 40)) {
            return finding(BEYOND);
        }
        if (!isIn(navy.aboardOf[ship], cat)) {
            return finding(STATE);
        }
        int own = navy.kindOf[cat];
        int due = navy.cellBehind(ship, n);
        int best = 0;
        int farthest = -1;
        for (int kind = 0; kind < KINDS; kind++) {
            navy.kindOf[cat] = kind;
            int far = distance(due, navy.cellBehind(ship, n));
            if (far > farthest) {
                farthest = far;
                best = kind;
            }
        }
        navy.kindOf[cat] = own;
        return best;
    }

    // ---- stores

    public int uses(int n, int h) {
        if (!isWithin(n, 0, FAR) || !isWithin(h, 1, MOST_HUNGER)) {
            return finding(BEYOND);
        }
        return navy.fedIn(n, h);
    }

    public int hunger(int n) {
        if (!isWithin(n, 0, FAR)) {
            return finding(BEYOND);
        }
        for (int h = 1; h <= MOST_HUNGER; h++) {
            if (navy.fedIn(n, h) <= navy.stored) {
                return h;
            }
        }
        return finding(NONE);
    }

    // ---- logs

    public int kinds(int s, int cat) {
        int wrong = wrongLog(s, isCat(cat));
        if (wrong != 0) {
            return wrong;
        }
        int set = 0;
        for (int kind = 0; kind < KINDS; kind++) {
            if (sitsAsTold(sheets[s], cat, kind, navy.habitOf[cat])) {
                set |= 1 << kind;
            }
        }
        return set;
    }

    public int habits(int s, int cat) {
        int wrong = wrongLog(s, isCat(cat));
        if (wrong != 0) {
            return wrong;
        }
        int many = 0;
        for (int habit = -MOST_HABIT; habit <= MOST_HABIT; habit++) {
            if (sitsAsTold(sheets[s], cat, navy.kindOf[cat], habit)) {
                many++;
            }
        }
        return many;
    }

    public int begun(int s, int ship) {
        int wrong = wrongLog(s, isShip(ship));
        if (wrong != 0) {
            return wrong;
        }
        readAhead(ship, sheets[s].size);
        int many = 0;
        for (int cell = 0; cell < CELLS; cell++) {
            if (goesAsTold(sheets[s], ship, cell)) {
                many++;
            }
        }
        return many;
    }

    public int from(int s, int ship) {
        int wrong = wrongLog(s, isShip(ship));
        if (wrong != 0) {
            return wrong;
        }
        readAhead(ship, sheets[s].size);
        for (int cell = 0; cell < CELLS; cell++) {
            if (goesAsTold(sheets[s], ship, cell)) {
                return cell;
            }
        }
        return finding(NONE);
    }

    /** The finding of a call that looks at a log: of the sheet first, then of whose log it is; 0 if none. */
    private int wrongLog(int s, boolean isThere) {
        int wrong = wrongSheet(s);
        if (wrong != 0) {
            return wrong;
        }
        return isThere ? 0 : finding(BEYOND);
    }

    private boolean sitsAsTold(Sheet log, int cat, int kind, int habit) {
        for (int n = 0; n < log.size; n++) {
            if (log.numbers[n] != navy.errsAs(cat, kind, habit, n)) {
                return false;
            }
        }
        return true;
    }

    /** Whether a ship, begun at a cell, goes by the rows of a log; it goes by reads. */
    private boolean goesAsTold(Sheet log, int ship, int begin) {
        int cell = begin;
        for (int n = 0; n < log.size; n++) {
            int row = log.numbers[n];
            if (row != -1 && row != cell / SIDE) {
                return false;
            }
            cell = navy.nextBy(cell, course(navy.orderOf[ship], reads[n]), navy.windNow);
        }
        return true;
    }

    // ---- storms

    public int storms(int n) {
        if (!isWithin(n, 1, 20)) {
            return finding(BEYOND);
        }
        if (navy.watch > MOST_WATCH - n) {
            return finding(STATE);
        }
        for (int i = 0; i < n; i++) {
            navy.passStorm();
        }
        return Integer.bitCount(navy.landedShips());
    }

    public int odds(int ship, int what) {
        if (!isShip(ship) || !isWithin(what, 0, 1)) {
            return finding(BEYOND);
        }
        int above = navy.drivesThatLand(ship);
        int below = WINDS;
        // Below the line stands a power of two, so halving both is all there is to do.
        for (int i = 0; i < 3 && above % 2 == 0; i++) {
            above /= 2;
            below /= 2;
        }
        return what == 0 ? above : below;
    }

    public long drives(int n) {
        if (!isWithin(n, 0, 20)) {
            return finding(BEYOND);
        }
        return 1L << 3 * n;
    }

    public int seed(int v) {
        int was = navy.z;
        navy.z = v;
        return was;
    }

    // ---- texts

    public int feed(int bytes, int n) {
        if (!isWithin(n, 1, 4)) {
            return finding(BEYOND);
        }
        if (tape.length > MOST_BYTES - n) {
            return finding(FULL);
        }
        for (int i = n - 1; i >= 0; i--) {
            tape.add(bytes >>> 8 * i & 255);
        }
        return tape.length;
    }

    public int wipe() {
        int had = tape.length;
        tape.length = 0;
        return had;
    }

    public int text() {
        reader.scan(tape);
        // First without acting: a text with a fault changes nothing.
        int answer = reader.read(navy, false);
        if (answer >= 0) {
            answer = reader.read(navy, true);
        }
        tape.length = 0;
        return answer;
    }

    // ---- spots, sheets

    public int hold(int spot, int cat) {
        if (!isSpot(spot) || cat != -1 && !isCat(cat)) {
            return finding(BEYOND);
        }
        navy.spots[spot] = cat;
        return 1;
    }

    public int as(int spot, int kind) {
        if (!isSpot(spot) || !isKind(kind)) {
            return finding(BEYOND);
        }
        int cat = navy.spots[spot];
        if (!isCat(cat)) {
            return finding(MISSING);
        }
        return isOrUnder(navy.kindOf[cat], kind) ? cat : finding(KIND);
    }

    public int sheet(int s, int bits, int n) {
        if (!isSheet(s) || bits != 0 && bits != 8 && bits != 16 && bits != 32) {
            return finding(BEYOND);
        }
        if (n < 0) {
            return finding(SIZE);
        }
        if (n > MOST_NUMBERS) {
            return finding(BEYOND);
        }
        sheets[s].begin(bits, bits == 0 ? 0 : n);
        return sheets[s].size;
    }

    public int write(int s, int i, int v) {
        int wrong = wrongSheet(s);
        if (wrong != 0) {
            return wrong;
        }
        if (!isWithin(i, 0, sheets[s].size - 1)) {
            return finding(BEYOND);
        }
        sheets[s].numbers[i] = sheets[s].lowest(v);
        return 1;
    }

    public int copy(int s, int from, int t, int to, int n) {
        if (!isSheet(s) || !isSheet(t)) {
            return finding(BEYOND);
        }
        Sheet source = sheets[s];
        Sheet target = sheets[t];
        if (source.isMissing() || target.isMissing()) {
            return finding(MISSING);
        }
        if (source.bits != target.bits) {
            return finding(KIND);
        }
        if (!source.has(from, n) || !target.has(to, n)) {
            return finding(BEYOND);
        }
        System.arraycopy(source.numbers, from, target.numbers, to, n);
        return n;
    }

    public int load(int s) {
        int wrong = wrongSheet(s);
        if (wrong != 0) {
            return wrong;
        }
        int came = 0;
        for (int i = 0; i < sheets[s].size && i < navy.cats; i++) {
            int hunger = sheets[s].numbers[i];
            if (!isWithin(hunger, 0, MOST_HUNGER)) {
                break;
            }
            navy.hungerOf[i] = hunger;
            came++;
        }
        return came;
    }

    public int judge(int s) {
        int wrong = wrongSheet(s);
        if (wrong != 0) {
            return wrong;
        }
        int cell = navy.cellOf[0];
        for (int n = 0; n < sheets[s].size; n++) {
            if (sheets[s].numbers[n] != cell) {
                return 1 + n;
            }
            cell = navy.nextOf(0, cell, n);
        }
        return 0;
    }

    /** The finding of a call that needs a sheet with numbers; 0 if none. */
    private int wrongSheet(int s) {
        if (!isSheet(s)) {
            return finding(BEYOND);
        }
        return sheets[s].isMissing() ? finding(MISSING) : 0;
    }

    // ---- images

    public int image() {
        kept.become(navy);
        isKept = true;
        return 1;
    }

    public int undo() {
        if (!isKept) {
            return finding(NONE);
        }
        navy.become(kept);
        return navy.watch;
    }

    public int tear() {
        int was = isKept ? 1 : 0;
        isKept = false;
        return was;
    }

    public int count(int what) {
        switch (what) {
            case 0: return navy.watch;
            case 1: return navy.cats;
            case 2: return navy.islands();
            case 3: return Integer.bitCount(navy.landedShips());
            case 4: return navy.hungerOfAll();
            case 5: return tape.length;
            case 6: return navy.z;
            case 7: return navy.spotsHeld();
            default: return finding(BEYOND);
        }
    }

    public int status(int which) {
        if (!isWithin(which, -1, FINDINGS - 1)) {
            return finding(BEYOND);
        }
        if (which >= 0) {
            return found[which];
        }
        int all = 0;
        for (int i = 0; i < FINDINGS; i++) {
            all += found[i];
        }
        return all;
    }

    // ---- what calls have in common

    /** Every finding is told by this, so that status() knows of it. */
    private int finding(int which) {
        int i = BEYOND - which;
        if (i >= 0 && i < FINDINGS) {
            found[i]++;
        }
        return which;
    }

    private boolean isCat(int cat) {
        return isWithin(cat, 0, navy.cats - 1);
    }

    private boolean isSetOfCats(int set) {
        return isWithin(set, 0, (1 << navy.cats) - 1);
    }

    private static boolean isShip(int ship) {
        return isWithin(ship, 0, SHIPS - 1);
    }

    private static boolean isCell(int cell) {
        return isWithin(cell, 0, CELLS - 1);
    }

    private static boolean isKind(int kind) {
        return isWithin(kind, 0, KINDS - 1);
    }

    private static boolean isSpot(int spot) {
        return isWithin(spot, 0, SPOTS - 1);
    }

    private static boolean isSheet(int s) {
        return isWithin(s, 0, SHEETS - 1);
    }

    private static boolean isWithin(int v, int least, int most) {
        return v >= least && v <= most;
    }

    private static boolean isIn(int set, int member) {
        return (set >> member & 1) == 1;
    }

    /** A number of a row becomes v: what it was. The place has been looked at by the caller. */
    private static int put(int[] row, int place, int v) {
        int was = row[place];
        row[place] = v;
        return was;
    }

    private static int course(int order, int reads) {
        return Math.floorMod(order + reads, POINTS);
    }

    private static int heading(int course) {
        return (course + 2) / 4 % WINDS;
    }

    /** The cell beside of one; the same cell, if the sea ends there. */
    private static int beside(int cell, int heading) {
        int row = cell / SIDE + ROWS_ON[heading];
        int column = cell % SIDE + COLUMNS_ON[heading];
        if (!isWithin(row, 0, SIDE - 1) || !isWithin(column, 0, SIDE - 1)) {
            return cell;
        }
        return row * SIDE + column;
    }

    private static int distance(int a, int b) {
        return Math.abs(a / SIDE - b / SIDE) + Math.abs(a % SIDE - b % SIDE);
    }

    private static boolean isOrUnder(int kind, int above) {
        int k = kind;
        for (int i = 0; i < KINDS && k >= 0; i++) {
            if (k == above) {
                return true;
            }
            k = KIND_ABOVE[k];
        }
        return false;
    }

    /** All that image() keeps: cats, ships, the sea, stores, draws and spots. */
    private static final class Navy {
        int cats;
        final int[] kindOf = new int[MOST_CATS];
        final int[] hungerOf = new int[MOST_CATS];
        final int[] habitOf = new int[MOST_CATS];
        final int[] cellOf = new int[SHIPS];
        final int[] orderOf = new int[SHIPS];
        final int[] aboardOf = new int[SHIPS];
        final boolean[] isIsland = new boolean[CELLS];
        int windNow;
        int fishWatches;
        int stored = 100;
        int watch;
        int z = 1;
        final int[] spots = new int[SPOTS];

        Navy() {
            Arrays.fill(spots, -1);
        }

        void become(Navy other) {
            cats = other.cats;
            System.arraycopy(other.kindOf, 0, kindOf, 0, MOST_CATS);
            System.arraycopy(other.hungerOf, 0, hungerOf, 0, MOST_CATS);
            System.arraycopy(other.habitOf, 0, habitOf, 0, MOST_CATS);
            System.arraycopy(other.cellOf, 0, cellOf, 0, SHIPS);
            System.arraycopy(other.orderOf, 0, orderOf, 0, SHIPS);
            System.arraycopy(other.aboardOf, 0, aboardOf, 0, SHIPS);
            for (int cell = 0; cell < CELLS; cell++) {
                isIsland[cell] = other.isIsland[cell];
            }
            windNow = other.windNow;
            fishWatches = other.fishWatches;
            stored = other.stored;
            watch = other.watch;
            z = other.z;
            System.arraycopy(other.spots, 0, spots, 0, SPOTS);
        }

        /** A new cat: its number, or -1 if there is no room (callers look at that ahead). */
        int addCat(int kind, int hunger, int habit) {
            if (cats >= MOST_CATS) {
                return -1;
            }
            kindOf[cats] = kind;
            hungerOf[cats] = hunger;
            habitOf[cats] = habit;
            cats++;
            return cats - 1;
        }

        /** How a cat would err behind n watches, were it of a kind and a habit. */
        int errsAs(int cat, int kind, int habit, int n) {
            int hunger = Math.min(hungerOf[cat] + n, MOST_HUNGER);
            int t = (watch + n) % WATCHES_A_DAY;
            int asCat = hunger / 10;
            int asTom = asCat + 2 * (fishWatches >> t & 1);
            int asOld = hunger >= 50 ? habit : asTom;
            int asKitten = asCat + t % 5 - 2;
            switch (kind) {
                case TOM: return asTom;
                case KITTEN: return asKitten;
                case OLD: return asOld;
                case PRIZE: return 16 - asOld;
                case BLIND: return asCat / 2;
                case BLACK: return asKitten + 1;
                default: return asCat;
            }
        }

        int errs(int cat, int n) {
            return errsAs(cat, kindOf[cat], habitOf[cat], n);
        }

        /** The mean of how a set of cats errs behind n watches; 0 without cats. */
        int meanOf(int set, int n) {
            int sum = 0;
            int many = 0;
            for (int cat = 0; cat < cats; cat++) {
                if (isIn(set, cat)) {
                    sum += errsAs(cat, kindOf[cat], habitOf[cat], n);
                    many++;
                }
            }
            return many == 0 ? 0 : sum / many;
        }

        /** Where a ship that is at a cell behind n watches is behind one more. */
        int nextOf(int ship, int cell, int n) {
            return nextBy(cell, course(orderOf[ship], meanOf(aboardOf[ship], n)), windNow);
        }

        int nextBy(int cell, int course, int wind) {
            int heading = heading(course);
            if (isIsland[cell] || heading == wind) {
                return cell;
            }
            return beside(cell, heading);
        }

        int cellBehind(int ship, int n) {
            int cell = cellOf[ship];
            for (int i = 0; i < n; i++) {
                cell = nextOf(ship, cell, i);
            }
            return cell;
        }

        void passWatch() {
            for (int ship = 0; ship < SHIPS; ship++) {
                cellOf[ship] = nextOf(ship, cellOf[ship], 0);
            }
            for (int cat = 0; cat < cats; cat++) {
                hungerOf[cat] = Math.min(hungerOf[cat] + 1, MOST_HUNGER);
            }
            watch++;
        }

        void passStorm() {
            for (int ship = 0; ship < SHIPS; ship++) {
                if (!isLanded(ship)) {
                    cellOf[ship] = beside(cellOf[ship], draw() % WINDS);
                }
            }
            passWatch();
        }

        int draw() {
            z = z * 1103515245 + 12345;
            return z >>> 8;
        }

        /** Of the eight drives of a ship, those behind which it is at an island. */
        int drivesThatLand(int ship) {
            if (isLanded(ship)) {
                return WINDS;
            }
            int many = 0;
            for (int heading = 0; heading < WINDS; heading++) {
                if (isIsland[beside(cellOf[ship], heading)]) {
                    many++;
                }
            }
            return many;
        }

        boolean isLanded(int ship) {
            return isIsland[cellOf[ship]];
        }

        int landedShips() {
            int set = 0;
            for (int ship = 0; ship < SHIPS; ship++) {
                if (isLanded(ship)) {
                    set |= 1 << ship;
                }
            }
            return set;
        }

        /** How often cats are fed in n watches, each whenever its hunger is h; h is 1 or more. */
        int fedIn(int n, int h) {
            if (h < 1) {
                return 0;
            }
            int fed = 0;
            for (int cat = 0; cat < cats; cat++) {
                int first = Math.max(h - hungerOf[cat], 0);
                if (first < n) {
                    fed += 1 + (n - 1 - first) / h;
                }
            }
            return fed;
        }

        int greatestHunger() {
            int most = 0;
            for (int cat = 0; cat < cats; cat++) {
                most = Math.max(most, hungerOf[cat]);
            }
            return most;
        }

        int hungerOfAll() {
            int sum = 0;
            for (int cat = 0; cat < cats; cat++) {
                sum += hungerOf[cat];
            }
            return sum;
        }

        int islands() {
            int many = 0;
            for (int cell = 0; cell < CELLS; cell++) {
                if (isIsland[cell]) {
                    many++;
                }
            }
            return many;
        }

        int spotsHeld() {
            int many = 0;
            for (int spot = 0; spot < SPOTS; spot++) {
                if (spots[spot] >= 0) {
                    many++;
                }
            }
            return many;
        }
    }

    /** A row of numbers of 8, 16 or 32 bits; of 0 bits it is missing. */
    private static final class Sheet {
        int bits;
        int size;
        final int[] numbers = new int[MOST_NUMBERS];

        void begin(int bitsOfEach, int n) {
            bits = bitsOfEach;
            size = n;
            Arrays.fill(numbers, 0);
        }

        boolean isMissing() {
            return bits == 0;
        }

        /** A number of which only the lowest bits are kept, with their sign. */
        int lowest(int v) {
            if (bits == 8) {
                return (byte) v;
            }
            return bits == 16 ? (short) v : v;
        }

        boolean has(int place, int n) {
            return place >= 0 && n >= 0 && place <= size && n <= size - place;
        }
    }

    /** Bytes that wait to be read as a text. */
    private static final class Tape {
        final int[] bytes = new int[MOST_BYTES];
        int length;

        void add(int b) {
            if (length < MOST_BYTES) {
                bytes[length] = b;
                length++;
            }
        }

        /** Where the run of letters (or of digits) that begins at a place ends. */
        int runEnd(int begin, char least, char most) {
            int end = begin;
            while (end < length && isWithin(bytes[end], least, most)) {
                end++;
            }
            return end;
        }

        /** The number that digits tell; no more than one above the greatest, so that it never wraps around. */
        int numberAt(int begin, int end) {
            int number = 0;
            for (int i = begin; i < end && i < length; i++) {
                number = Math.min(number * 10 + bytes[i] - '0', MOST_NUMBER + 1);
            }
            return number;
        }

        boolean isWordAt(int begin, int end, String word) {
            if (end - begin != word.length() || end > length) {
                return false;
            }
            for (int i = begin; i < end; i++) {
                if (bytes[i] != word.charAt(i - begin)) {
                    return false;
                }
            }
            return true;
        }
    }

    /** Makes tokens of a tape, reads them as a text, and acts by it if told so. */
    private static final class Reader {
        /** Tokens: the words of kinds are the numbers of their kinds, and other words go on from there. */
        static final int ISLAND = 7;
        static final int SHIP = 8;
        static final int WIND = 9;
        static final int FISH = 10;
        static final int STORE = 11;
        static final int HUNGER = 12;
        static final int HABIT = 13;
        static final int AT = 14;
        static final int ORDER = 15;
        static final int ABOARD = 16;
        static final int WORDS = 17;
        static final int NUMBER = 17;
        static final int SEMICOLON = 18;
        static final int MINUS = 19;
        static final int END = 20;
        static final int WRONG = 21;

        /** What a part of an item tells if it isn't there. */
        static final int ABSENT = -1;

        /** The tokens, and one more that is the end. */
        final int[] tokens = new int[MOST_BYTES + 1];
        final int[] begins = new int[MOST_BYTES + 1];
        final int[] numbers = new int[MOST_BYTES + 1];
        int last;
        int place;
        boolean acts;
        boolean isFaulty;
        /** Cats that there are by then, also where the reader doesn't act. */
        int cats;

        void scan(Tape tape) {
            last = 0;
            int next = 0;
            for (int i = 0; i < MOST_BYTES && next < tape.length; i++) {
                if (tape.bytes[next] == ' ') {
                    next++;
                } else {
                    next = takeToken(tape, next);
                    last++;
                }
            }
            tokens[last] = END;
            begins[last] = tape.length;
        }

        /** The token that begins at a place becomes the last one: where it ends. */
        int takeToken(Tape tape, int begin) {
            begins[last] = begin;
            int end = tape.runEnd(begin, 'a', 'z');
            if (end > begin) {
                tokens[last] = wordAt(tape, begin, end);
                return end;
            }
            end = tape.runEnd(begin, '0', '9');
            if (end > begin) {
                tokens[last] = NUMBER;
                numbers[last] = tape.numberAt(begin, end);
                return end;
            }
            tokens[last] = signOf(tape.bytes[begin]);
            return begin + 1;
        }

        static int wordAt(Tape tape, int begin, int end) {
            for (int word = 0; word < WORDS; word++) {
                if (tape.isWordAt(begin, end, spelled(word))) {
                    return word;
                }
            }
            return WRONG;
        }

        static int signOf(int b) {
            if (b == ';') {
                return SEMICOLON;
            }
            return b == '-' ? MINUS : WRONG;
        }

        static String spelled(int word) {
            switch (word) {
                case CAT: return "cat";
                case TOM: return "tom";
                case KITTEN: return "kitten";
                case OLD: return "old";
                case PRIZE: return "prize";
                case BLIND: return "blind";
                case BLACK: return "black";
                case ISLAND: return "island";
                case SHIP: return "ship";
                case WIND: return "wind";
                case FISH: return "fish";
                case STORE: return "store";
                case HUNGER: return "hunger";
                case HABIT: return "habit";
                case AT: return "at";
                case ORDER: return "order";
                case ABOARD: return "aboard";
                default: return "";
            }
        }

        /** How many items the text has; -1 less the fault, if it has one. */
        int read(Navy navy, boolean acting) {
            acts = acting;
            isFaulty = false;
            cats = navy.cats;
            place = 0;
            for (int items = 1; items <= MOST_BYTES; items++) {
                readItem(navy);
                if (!isFaulty && tokens[place] == END) {
                    return items;
                }
                if (isFaulty || tokens[place] != SEMICOLON) {
                    break;
                }
                advance();
            }
            return -1 - begins[place];
        }

        void advance() {
            if (place < last) {
                place++;
            }
        }

        void readItem(Navy navy) {
            int token = tokens[place];
            if (isKind(token)) {
                readCat(navy, token);
                return;
            }
            switch (token) {
                case ISLAND: readIsland(navy); break;
                case SHIP: readShip(navy); break;
                case WIND: navy.windNow = readSetting(navy.windNow, WINDS - 1); break;
                case FISH: navy.fishWatches = readSetting(navy.fishWatches, MOST_FISH); break;
                case STORE: navy.stored = readSetting(navy.stored, MOST_STORE); break;
                default: isFaulty = true; break;
            }
        }

        void readCat(Navy navy, int kind) {
            if (cats >= MOST_CATS) {
                isFaulty = true;
                return;
            }
            advance();
            int hunger = readPart(HUNGER, MOST_HUNGER);
            int habit = readHabit();
            cats++;
            if (acts && !isFaulty) {
                navy.addCat(kind, hunger == ABSENT ? 0 : hunger, habit);
            }
        }

        int readHabit() {
            if (isFaulty || tokens[place] != HABIT) {
                return 0;
            }
            advance();
            boolean isWest = tokens[place] == MINUS;
            if (isWest) {
                advance();
            }
            int habit = takeNumber(MOST_HABIT);
            return isWest ? -habit : habit;
        }

        void readIsland(Navy navy) {
            int cell = readPart(ISLAND, CELLS - 1);
            if (acts && isCell(cell)) {
                navy.isIsland[cell] = true;
            }
        }

        void readShip(Navy navy) {
            int ship = readPart(SHIP, SHIPS - 1);
            int cell = readPart(AT, CELLS - 1);
            int order = readPart(ORDER, POINTS - 1);
            int aboard = readPart(ABOARD, (1 << cats) - 1);
            if (!acts || isFaulty || !isShip(ship)) {
                return;
            }
            navy.cellOf[ship] = cell == ABSENT ? navy.cellOf[ship] : cell;
            navy.orderOf[ship] = order == ABSENT ? navy.orderOf[ship] : order;
            navy.aboardOf[ship] = aboard == ABSENT ? navy.aboardOf[ship] : aboard;
        }

        /** What a setting is behind an item that tells it by the word that is looked at. */
        int readSetting(int was, int most) {
            advance();
            int told = takeNumber(most);
            return acts && !isFaulty ? told : was;
        }

        /** The number behind a word, if that is looked at; absent also with a fault, or behind one. */
        int readPart(int word, int most) {
            if (isFaulty || tokens[place] != word) {
                return ABSENT;
            }
            advance();
            return takeNumber(most);
        }

        /** The number that is looked at, 0 to most; absent with a fault, which stays looked at. */
        int takeNumber(int most) {
            if (tokens[place] != NUMBER || numbers[place] > most) {
                isFaulty = true;
                return ABSENT;
            }
            int number = numbers[place];
            advance();
            return number;
        }
    }
}
