import java.util.function.Supplier;

/**
 * The boundary cases that the document names, sentence by sentence: the last input that is allowed and the first that
 * isn't, on each side; what is empty, what is full; where a number wraps around. Answers are worked out by hand.
 * Texts have a test of their own (TextEdgeTest), as has what a refused call leaves as it was (RefusedTest).
 */
public final class EdgeTest extends Checks {
    private interface Act {
        long ask(NavyOfCats x, int v);
    }

    /** The least and the most are taken; what is beside them is BEYOND, and so are the ends of int. Each on a navy of its own. */
    private static void range(String call, Supplier<NavyOfCats> made, Act act, int least, long atLeast, int most, long atMost) {
        due(call + " with the least, " + least, act.ask(made.get(), least), atLeast);
        due(call + " with the most, " + most, act.ask(made.get(), most), atMost);
        for (int v : new int[] {least - 1, most + 1, LEAST, MOST}) {
            due(call + " with " + v, act.ask(made.get(), v), BEYOND);
        }
    }

    private static Supplier<NavyOfCats> aNew() {
        return NavyOfCats::new;
    }

    private static Supplier<NavyOfCats> by(String... texts) {
        return () -> navy(texts);
    }

    private static Supplier<NavyOfCats> cats(int cats) {
        return () -> withCats(cats);
    }

    public static void main(String[] args) {
        findings();
        quotientsAndLeasts();
        sea();
        errs();
        shipsAndWatches();
        stormsByDraws();
        catsShipsSea();
        setsOfCats();
        watches();
        lastWatch();
        whatWillBe();
        orders();
        whoIsAboard();
        stores();
        logs();
        fullLogs();
        storms();
        spots();
        sheets();
        copies();
        loadsAndJudges();
        images();
        countsAndStatus();
        end("EdgeTest");
    }

    // ---- terms

    private static void findings() {
        says(0, "LOW is -1000001; LOW BEYOND, LOW - 1 FULL, LOW - 2 KIND, LOW - 3 NONE, LOW - 4 STATE, LOW - 5 MISSING, LOW - 6 SIZE");
        NavyOfCats x = withCats(8);
        x.hold(0, 0);
        due("BEYOND", x.cat(7), -1000001);
        due("FULL", x.cat(0), -1000002);
        due("KIND", x.as(0, 1), -1000003);
        due("NONE", x.undo(), -1000004);
        due("STATE", x.orders(0, 0), -1000005L);
        due("MISSING", x.load(0), -1000006);
        due("SIZE", x.sheet(0, 8, -1), -1000007);
        for (int which = 0; which < 7; which++) {
            due("each counted as its own, " + which, x.status(which), 1);
        }
        says(0, "(in longs, too)");
        due("BEYOND of orders", x.orders(4, 0), -1000001L);
        due("STATE of orders", x.orders(3, 99), -1000005L);
        due("BEYOND of drives", x.drives(21), -1000001L);
        says(0, "What seed() and count(6) tell, z, may be any int: that is no finding");
        NavyOfCats y = new NavyOfCats();
        for (int z : new int[] {LEAST, MOST, -1, 0, -1000000, BEYOND, FULL, KIND, NONE, STATE, MISSING, SIZE, SIZE - 1}) {
            y.seed(z);
            due("count(6) of " + z, y.count(6), z);
            due("seed behind " + z, y.seed(1), z);
        }
        due("findings", y.status(-1), 0);
        says(0, "Each act tells its findings in the order in which they are asked (that of its words)");
        findingsInTurn();
        findingsOfSheetsInTurn();
    }

    /** Where two findings are due, the first of the words is told; beside it stands the second one alone. */
    private static void findingsInTurn() {
        NavyOfCats full = withCats(8);
        for (int i = 0; i < 30; i++) {
            full.feed(0, 4);
        }
        full.store(0);
        due("cat: BEYOND, FULL", full.cat(7), BEYOND);
        due("cat: FULL", full.cat(6), FULL);
        due("feeds: BEYOND, STATE", full.feeds(256), BEYOND);
        due("feeds: STATE", full.feeds(255), STATE);
        due("spy: BEYOND of n, STATE", full.spy(0, 0, 41), BEYOND);
        due("spy: STATE", full.spy(0, 0, 40), STATE);
        due("spy: BEYOND of the ship", full.spy(4, 0, 0), BEYOND);
        due("spy: BEYOND of the cat", full.spy(0, 8, 0), BEYOND);
        due("hunger: BEYOND, NONE", full.hunger(201), BEYOND);
        due("hunger: NONE", full.hunger(200), NONE);
        due("feed: BEYOND, FULL", full.feed(0, 5), BEYOND);
        due("feed: FULL", full.feed(0, 4), FULL);
        NavyOfCats empty = new NavyOfCats();
        due("lands: BEYOND, NONE", empty.lands(4), BEYOND);
        due("lands: NONE", empty.lands(3), NONE);
        due("order: BEYOND, NONE", empty.order(4), BEYOND);
        due("order: NONE", empty.order(3), NONE);
        due("soonest: BEYOND, NONE", empty.soonest(4), BEYOND);
        due("soonest: NONE", empty.soonest(3), NONE);
        due("windFor: BEYOND, NONE", empty.windFor(4), BEYOND);
        due("windFor: NONE", empty.windFor(3), NONE);
        due("orders: BEYOND of the ship, STATE", empty.orders(4, 99), BEYOND);
        due("orders: BEYOND of the cell", empty.orders(3, 100), BEYOND);
        due("orders: STATE", empty.orders(3, 99), STATE);
        due("crew: BEYOND, NONE", empty.crew(9), BEYOND);
        due("crew: NONE", empty.crew(8), NONE);
        due("mean: BEYOND, NONE", empty.mean(9), BEYOND);
        due("mean: NONE", empty.mean(8), NONE);
        due("better: BEYOND, NONE", empty.better(4), BEYOND);
        due("better: NONE", empty.better(3), NONE);
        empty.steer(1, 0, 99);
        due("meets: BEYOND, NONE", empty.meets(1, 4), BEYOND);
        due("meets: BEYOND of the same", empty.meets(1, 1), BEYOND);
        due("meets: NONE", empty.meets(1, 0), NONE);
    }

    private static void findingsOfSheetsInTurn() {
        NavyOfCats x = withCats(1);
        x.hold(1, 0);
        sheetOf(x, 1, 8, 10);
        x.sheet(2, 16, 1);
        due("kinds: BEYOND, no sheet", x.kinds(4, 1), BEYOND);
        due("kinds: MISSING, BEYOND", x.kinds(0, 1), MISSING);
        due("kinds: BEYOND, no cat", x.kinds(1, 1), BEYOND);
        due("habits: BEYOND, no sheet", x.habits(4, 1), BEYOND);
        due("habits: MISSING, BEYOND", x.habits(0, 1), MISSING);
        due("habits: BEYOND, no cat", x.habits(1, 1), BEYOND);
        due("begun: BEYOND, no sheet", x.begun(4, 4), BEYOND);
        due("begun: MISSING, BEYOND", x.begun(0, 4), MISSING);
        due("begun: BEYOND, no ship", x.begun(1, 4), BEYOND);
        due("from: BEYOND, no sheet", x.from(4, 4), BEYOND);
        due("from: MISSING, BEYOND, NONE", x.from(0, 4), MISSING);
        due("from: BEYOND, NONE", x.from(1, 4), BEYOND);
        due("from: NONE", x.from(1, 3), NONE);
        due("as: BEYOND of the kind, MISSING", x.as(0, 7), BEYOND);
        due("as: BEYOND of the kind, KIND", x.as(1, 7), BEYOND);
        due("as: MISSING", x.as(0, 6), MISSING);
        due("as: KIND", x.as(1, 6), KIND);
        due("sheet: BEYOND, no sheet, SIZE", x.sheet(4, 8, -1), BEYOND);
        due("sheet: BEYOND, other bits, SIZE", x.sheet(1, 9, -1), BEYOND);
        due("sheet: SIZE", x.sheet(1, 8, -1), SIZE);
        due("write: BEYOND, no sheet", x.write(4, 1, 0), BEYOND);
        due("write: MISSING, BEYOND", x.write(0, 1, 0), MISSING);
        due("write: BEYOND", x.write(1, 1, 0), BEYOND);
        due("copy: BEYOND, MISSING", x.copy(4, 0, 0, 0, 0), BEYOND);
        due("copy: BEYOND, MISSING", x.copy(0, 0, 4, 0, 0), BEYOND);
        due("copy: MISSING, KIND", x.copy(0, 0, 1, 0, 0), MISSING);
        due("copy: MISSING, BEYOND", x.copy(1, -1, 0, 0, 0), MISSING);
        due("copy: KIND, BEYOND", x.copy(1, 0, 2, 0, -1), KIND);
        due("copy: BEYOND", x.copy(1, 0, 1, 0, -1), BEYOND);
    }

    private static void quotientsAndLeasts() {
        says(0, "Quotients are cut (towards 0)");
        int[][] oldsAndReads = {{-1, 0, 0}, {1, 0, 0}, {-1, -2, -1}, {1, 2, 1}, {-15, 14, 0}, {-15, 12, -1}, {-15, -14, -14}, {15, 14, 14}};
        for (int[] row : oldsAndReads) {
            NavyOfCats x = navy("old hunger 50;old hunger 50;ship 0 aboard 3");
            x.change(0, 2, row[0]);
            x.change(1, 2, row[1]);
            due("mean of " + row[0] + " and " + row[1], x.ship(0, 3), row[2]);
            due("as a crew", x.mean(2), row[2]);
        }
        says(0, "of several that would do the least number counts, where nothing else is told");
        NavyOfCats x = navy("cat;cat;cat;island 0;ship 0 aboard 7");
        due("order of one that is landed", x.order(0), 0);
        due("surest of one that is landed", x.surest(0), 0);
        due("windFor of one that is landed", x.windFor(0), 0);
        due("crew of 1", x.crew(1), 1);
        due("crew of 2", x.crew(2), 3);
        due("better", x.better(0), 0);
        due("spy, for whom no kind goes anywhere", x.spy(0, 2, 40), 0);
        NavyOfCats y = navy("ship 0 at 55 order 8;island 56;island 54;wind 3");
        due("order: 6 to 9 east, 22 to 25 west", y.order(0), 6);
        due("surest: as many by west", y.surest(0), 6);
        due("windFor: all but 2", y.windFor(0), 0);
        due("from: any cell", fromAny(), 0);
    }

    private static long fromAny() {
        NavyOfCats x = new NavyOfCats();
        sheetOf(x, 0, 8, -1);
        return x.from(0, 0);
    }

    private static void sea() {
        says(0, "it stays, if there is no such CELL");
        for (int cell = 0; cell < 100; cell++) {
            NavyOfCats x = navy("ship 0 at " + cell);
            for (int heading = 0; heading < 8; heading++) {
                x.steer(0, 1, 4 * heading);
                x.wind((heading + 4) % 8);
                due("from " + cell + " by heading " + heading, x.ship(0, 5), beside(cell, heading));
            }
        }
        says(0, "it stays .. if WIND comes from just there");
        for (int wind = 0; wind < 8; wind++) {
            NavyOfCats x = navy("ship 0 at 55;wind " + wind);
            for (int heading = 0; heading < 8; heading++) {
                x.steer(0, 1, 4 * heading);
                due("heading " + heading + " by wind " + wind, x.ship(0, 5), wind == heading ? 55 : beside(55, heading));
            }
        }
        says(0, "it stays .. if it is AT an ISLAND (LANDED)");
        NavyOfCats landed = navy("ship 0 at 55 order 8;island 55");
        due("landed", landed.ship(0, 6), 1);
        due("stays", landed.ship(0, 5), 55);
        landed.steer(0, 0, 54);
        due("beside it isn't landed", landed.ship(0, 6), 0);
        due("and goes", landed.ship(0, 5), 55);
        says(0, "of eight (north, north-east, east, .. ) that of the number (COURSE and 2) by 4, round");
        // The first order and the last of each heading.
        int[][] firstLastCell = {{30, 1, 45}, {2, 5, 46}, {6, 9, 56}, {10, 13, 66}, {14, 17, 65}, {18, 21, 64}, {22, 25, 54}, {26, 29, 44}};
        for (int heading = 0; heading < 8; heading++) {
            NavyOfCats x = navy("ship 0 at 55;wind " + (heading + 2) % 8);
            int[] row = firstLastCell[heading];
            due("heading " + heading, orderedTo(x, row[0]), row[2]);
            due("heading " + heading, orderedTo(x, row[1]), row[2]);
            due("ahead of heading " + heading, orderedTo(x, (row[0] + 31) % 32), firstLastCell[(heading + 7) % 8][2]);
        }
        says(0, "COURSE: ORDER and READS, round");
        int[][] readsOrderCourse = {{-1, 0, 31}, {-1, 1, 0}, {1, 31, 0}, {1, 30, 31}, {-15, 0, 17}, {-15, 14, 31}, {-15, 15, 0}, {15, 31, 14}, {15, 17, 0}, {15, 16, 31}};
        for (int[] row : readsOrderCourse) {
            NavyOfCats x = navy("old hunger 50;ship 0 aboard 1");
            x.change(0, 2, row[0]);
            x.steer(0, 1, row[1]);
            due("reads " + row[0] + " by order " + row[1], x.ship(0, 4), row[2]);
        }
        NavyOfCats prize = navy("prize hunger 50 habit -15;ship 0 order 31 aboard 1");
        due("reads 31 by order 31", prize.ship(0, 4), 30);
        prize.steer(0, 1, 1);
        due("reads 31 by order 1", prize.ship(0, 4), 0);
        prize.steer(0, 1, 0);
        due("reads 31 by order 0", prize.ship(0, 4), 31);
    }

    private static int orderedTo(NavyOfCats x, int order) {
        x.steer(0, 1, order);
        return x.ship(0, 5);
    }

    /** The cell beside of one, or the same one where the sea ends. */
    private static int beside(int cell, int heading) {
        String[] headings = {"n", "ne", "e", "se", "s", "sw", "w", "nw"};
        String way = headings[heading];
        boolean north = way.contains("n");
        boolean south = way.contains("s");
        boolean east = way.contains("e");
        boolean west = way.contains("w");
        if (north && cell < 10 || south && cell > 89 || west && cell % 10 == 0 || east && cell % 10 == 9) {
            return cell;
        }
        return cell + (north ? -10 : south ? 10 : 0) + (west ? -1 : east ? 1 : 0);
    }

    private static long errsOf(int kind, int hunger, int habit) {
        NavyOfCats x = new NavyOfCats();
        x.cat(kind);
        x.change(0, 1, hunger);
        x.change(0, 2, habit);
        return x.of(0, 3);
    }

    private static void errs() {
        says(0, "CAT: HUNGER by 10");
        int[] hungers = {0, 9, 10, 19, 20, 49, 50, 89, 90, 99};
        int[] byTen = {0, 0, 1, 1, 2, 4, 5, 8, 9, 9};
        for (int i = 0; i < hungers.length; i++) {
            due("cat of " + hungers[i], errsOf(0, hungers[i], 7), byTen[i]);
        }
        says(0, "OLD: as a TOM; but HABIT, if HUNGER is 50 or more");
        due("old of 49", errsOf(3, 49, -15), 4);
        due("old of 50", errsOf(3, 50, -15), -15);
        due("old of 51", errsOf(3, 51, 15), 15);
        due("old of 99", errsOf(3, 99, 0), 0);
        due("old of 0", errsOf(3, 0, 15), 0);
        due("a tom has no habit", errsOf(1, 50, -15), 5);
        says(0, "PRIZE: 16 less OLD");
        due("prize of 0", errsOf(4, 0, 15), 16);
        due("prize of 49", errsOf(4, 49, 15), 12);
        due("prize of 50, habit 15", errsOf(4, 50, 15), 1);
        due("prize of 50, habit -15", errsOf(4, 50, -15), 31);
        due("prize of 99, habit 0", errsOf(4, 99, 0), 16);
        says(0, "BLIND: half (cut) of a CAT");
        int[] half = {0, 0, 0, 0, 1, 2, 2, 4, 4, 4};
        for (int i = 0; i < hungers.length; i++) {
            due("blind of " + hungers[i], errsOf(5, hungers[i], 7), half[i]);
        }
        due("blind of 39", errsOf(5, 39, 0), 1);
        due("blind of 40", errsOf(5, 40, 0), 2);
        says(0, "WATCH: how many have gone by ..; t its rest by 16. TOM: .. and 2 if t is in FISH");
        NavyOfCats tom = navy("tom hunger 99;fish 1");
        int[] watches = {0, 1, 15, 16, 17, 31, 32, 33, 191, 192, 193, 200};
        int[] withFish = {11, 9, 9, 11, 9, 9, 11, 9, 9, 11, 9, 9};
        for (int i = 0; i < watches.length; i++) {
            due("fish at 0, watch " + watches[i], tom.sits(0, watches[i]), withFish[i]);
        }
        tom.fish(1 << 15);
        for (int watch : new int[] {14, 16, 30, 32, 0}) {
            due("fish at 15, watch " + watch, tom.sits(0, watch), 9);
        }
        due("fish at 15, watch 15", tom.sits(0, 15), 11);
        due("fish at 15, watch 31", tom.sits(0, 31), 11);
        tom.go(15);
        due("fish at 15, now", tom.of(0, 3), 11);
        tom.go(1);
        due("fish at 15, behind it", tom.of(0, 3), 9);
        says(0, "KITTEN: as a CAT, and the rest of t by 5 less 2. BLACK: as a KITTEN, and 1");
        NavyOfCats kittens = navy("kitten hunger 99;black hunger 99");
        int[] less = {-2, -1, 0, 1, 2, -2, -1, 0, 1, 2, -2, -1, 0, 1, 2, -2, -2, -1};
        for (int watch = 0; watch < less.length; watch++) {
            due("kitten at " + watch, kittens.of(0, 3), 9 + less[watch]);
            due("black at " + watch, kittens.of(1, 3), 10 + less[watch]);
            kittens.go(1);
        }
    }

    private static void shipsAndWatches() {
        says(0, "READS: .. 0, if there are none");
        NavyOfCats x = navy("cat hunger 99;ship 0 order 31");
        due("none aboard", x.ship(0, 3), 0);
        due("course by its order alone", x.ship(0, 4), 31);
        says(0, "a CAT may be aboard of several");
        for (int ship = 0; ship < 4; ship++) {
            due("aboard", x.steer(ship, 2, 1), 0);
        }
        for (int ship = 0; ship < 4; ship++) {
            due("aboard of all", x.ship(ship, 2), 1);
            due("and read by all", x.ship(ship, 3), 9);
        }
        says(0, "A WATCH goes by: SHIPS go, all by what was ahead of it; then HUNGER of each CAT is 1 more (99 at most)");
        NavyOfCats y = navy("cat hunger 59;cat hunger 97;cat hunger 99;ship 0 at 55 aboard 1;wind 4");
        y.go(1);
        due("by 5, north-east, not by 6", y.ship(0, 0), 46);
        due("59", y.of(0, 1), 60);
        due("97", y.of(1, 1), 98);
        due("99", y.of(2, 1), 99);
        y.go(1);
        due("by 6, east", y.ship(0, 0), 47);
        due("98", y.of(1, 1), 99);
        y.go(1);
        due("99 at most", y.of(1, 1), 99);
        y.go(60);
        due("99 at most", y.of(0, 1), 99);
        due("all of them", y.count(4), 297);
        y.storms(1);
        due("also behind a storm", y.count(4), 297);
        says(0, "FED: HUNGER of CATS becomes 0, each for 1 of what is in STORE (0 to 9999; 100 at first)");
        due("three of 100", y.feeds(7), 97);
        due("fed", y.count(4), 0);
        due("again, without hunger", y.feeds(7), 94);
    }

    private static void stormsByDraws() {
        says(0, "each SHIP that isn't LANDED is driven .. (it stays, if there is none)");
        // By z 0 the first draw is 48, its rest by 8 is 0: north.
        NavyOfCats x = oneShip(5, 0, 4);
        x.seed(0);
        x.storms(1);
        due("z", x.count(6), 12345);
        due("north of row 0 is nothing", x.ship(0, 0), 5);
        NavyOfCats y = oneShip(15, 16, 4);
        y.seed(0);
        y.storms(1);
        due("north, then south is against the wind", y.ship(0, 0), 5);
        NavyOfCats inTheNorth = oneShip(15, 16, 0);
        inTheNorth.seed(0);
        inTheNorth.storms(1);
        due("wind keeps none from being driven: north, then south", inTheNorth.ship(0, 0), 15);
        NavyOfCats landed = navy("island 5;island 15;ship 0 at 15;ship 1 at 15;ship 2 at 15;ship 3 at 15");
        due("landed ones stay", landed.storms(20), 4);
        due("and draw nothing", landed.count(6), 1);
        due("at", landed.ship(0, 0), 15);
        says(0, "each makes it z * 1103515245 + 12345 (an int), and gives z >>> 8");
        // 2 * 1103515245 + 12345 is 2207042835, as an int -2087924461; 2207042835 >>> 8 is 8621261, its rest by 8 is 5: south-west.
        NavyOfCats wraps = oneShip(55, 0, 0);
        wraps.seed(2);
        wraps.storms(1);
        due("z around", wraps.count(6), -2087924461);
        due("south-west, as z is above 0 by >>>", wraps.ship(0, 0), 64);
        // -1 * 1103515245 + 12345 is -1103502900; by 2^32 that is 3191464396, >>> 8 it is 12466657, its rest by 8 is 1: north-east.
        NavyOfCats below = oneShip(55, 0, 0);
        below.seed(-1);
        below.storms(1);
        due("z below 0", below.count(6), -1103502900);
        due("north-east", below.ship(0, 0), 46);
    }

    /** Ship 0 somewhere, all others landed far away, so that it alone draws. */
    private static NavyOfCats oneShip(int cell, int order, int wind) {
        return navy("island 99;ship 1 at 99;ship 2 at 99;ship 3 at 99",
            "ship 0 at " + cell + " order " + order + ";wind " + wind);
    }

    // ---- cats, ships, the sea

    private static void catsShipsSea() {
        says(1, "All as at first; no CATS; THE TAPE is empty, no image is kept");
        NavyOfCats x = new NavyOfCats();
        int[] counts = {0, 0, 0, 0, 0, 0, 1, 0};
        int[] nows = {0, 100, 0, 0, 0, 0};
        for (int what = 0; what < counts.length; what++) {
            due("count " + what, x.count(what), counts[what]);
        }
        for (int what = 0; what < nows.length; what++) {
            due("now " + what, x.now(what), nows[what]);
        }
        due("fish", x.fish(0), 0);
        due("text", x.text(), -1);
        due("tear", x.tear(), 0);
        due("findings", x.status(-1), 0);
        says(2, "A new CAT: its number. BEYOND");
        range("cat", aNew(), NavyOfCats::cat, 0, 0, 6, 0);
        says(2, "FULL (at most 8)");
        NavyOfCats cats = withCats(7);
        due("the 8th", cats.cat(6), 7);
        due("a 9th", cats.cat(6), FULL);
        due("cats", cats.count(1), 8);
        says(3, "Of a CAT: what 0 KIND, 1 HUNGER, 2 HABIT, 3 how it ERRS now. BEYOND");
        range("of by what", by("black hunger 33 habit 5"), (y, v) -> y.of(0, v), 0, 6, 3, 3 - 2 + 1);
        range("of 1", cats(1), (y, v) -> y.of(v, 1), 0, 0, 0, 0);
        range("of 8", cats(8), (y, v) -> y.of(v, 1), 0, 0, 7, 0);
        due("of none", new NavyOfCats().of(0, 0), BEYOND);
        changes();
        says(5, "Of a SHIP: what 0 AT, .. 6 1 if LANDED, else 0. BEYOND");
        range("ship", by("ship 0 at 7;ship 3 at 9"), (y, v) -> y.ship(v, 0), 0, 7, 3, 9);
        range("ship by what", by("ship 2 at 7;island 7"), (y, v) -> y.ship(2, v), 0, 7, 6, 1);
        steers();
        says(7, "A CELL is an ISLAND (is 1) or not (0): 1 if that is new, else 0. BEYOND");
        range("island", aNew(), (y, v) -> y.island(v, 1), 0, 1, 99, 1);
        range("no island", aNew(), (y, v) -> y.island(v, 0), 0, 0, 99, 0);
        range("is", by("island 50"), (y, v) -> y.island(50, v), 0, 1, 1, 0);
        says(8, "WIND becomes v: what it was. BEYOND");
        range("wind", by("wind 3"), NavyOfCats::wind, 0, 3, 7, 3);
        says(9, "FISH becomes a set (0 to 65535): what it was. BEYOND");
        range("fish", by("fish 9"), NavyOfCats::fish, 0, 9, 65535, 9);
        says(10, "STORE becomes v (0 to 9999): what it was. BEYOND");
        range("store", aNew(), NavyOfCats::store, 0, 100, 9999, 100);
    }

    private static void changes() {
        says(4, "KIND (what 0), HUNGER (1), HABIT (2) of a CAT becomes v: what it was. BEYOND");
        range("change by what", by("tom habit -3"), (y, v) -> y.change(0, v, 5), 0, 1, 2, -3);
        range("kind", by("tom"), (y, v) -> y.change(0, 0, v), 0, 1, 6, 1);
        range("hunger", by("tom hunger 4"), (y, v) -> y.change(0, 1, v), 0, 4, 99, 4);
        range("habit", by("tom habit 4"), (y, v) -> y.change(0, 2, v), -15, 4, 15, 4);
        range("change of 1", cats(1), (y, v) -> y.change(v, 1, 5), 0, 0, 0, 0);
        range("change of 8", cats(8), (y, v) -> y.change(v, 1, 5), 0, 0, 7, 0);
        due("change of none", new NavyOfCats().change(0, 1, 5), BEYOND);
        NavyOfCats x = withCats(1);
        for (int[] whatAndV : new int[][] {{0, 6}, {0, 0}, {1, 99}, {1, 0}, {2, -15}, {2, 15}}) {
            x.change(0, whatAndV[0], whatAndV[1]);
            due("it is so then", x.of(0, whatAndV[0]), whatAndV[1]);
        }
    }

    private static void steers() {
        says(6, "AT (what 0), ORDER (1), ABOARD (2: of CATS that there are) of a SHIP becomes v: what it was. BEYOND");
        range("steer", by("ship 0 at 7;ship 3 at 9"), (y, v) -> y.steer(v, 0, 5), 0, 7, 3, 9);
        range("steer by what", by("cat;ship 1 at 7 aboard 1"), (y, v) -> y.steer(1, v, 0), 0, 7, 2, 1);
        range("at", by("ship 1 at 7"), (y, v) -> y.steer(1, 0, v), 0, 7, 99, 7);
        range("order", by("ship 1 order 7"), (y, v) -> y.steer(1, 1, v), 0, 7, 31, 7);
        NavyOfCats x = withCats(8);
        for (int[] whatAndV : new int[][] {{0, 99}, {0, 0}, {1, 31}, {1, 0}, {2, 255}, {2, 128}, {2, 0}}) {
            x.steer(3, whatAndV[0], whatAndV[1]);
            due("it is so then", x.ship(3, whatAndV[0]), whatAndV[1]);
        }
    }

    /** Sets of as many cats as there are, and of one that isn't there. */
    private static void setsOfCats() {
        for (int cats = 0; cats <= 8; cats++) {
            int all = (1 << cats) - 1;
            says(6, "ABOARD (2: of CATS that there are)");
            range("aboard of " + cats, cats(cats), (x, v) -> x.steer(0, 2, v), 0, 0, all, 0);
            says(12, "BEYOND: of CATS that there are");
            range("feeds of " + cats, cats(cats), NavyOfCats::feeds, 0, 100, all, 100 - cats);
            says(25, "BEYOND. NONE: there are not so many");
            NavyOfCats x = withCats(cats);
            for (int k = 1; k <= 8; k++) {
                due("crew of " + k + " of " + cats, x.crew(k), k > cats ? NONE : (1 << k) - 1);
                due("mean of " + k + " of " + cats, x.mean(k), k > cats ? NONE : 0);
            }
        }
    }

    // ---- watches

    private static void watches() {
        says(11, "n WATCHES (1 to 60) go by: how many SHIPS are LANDED. BEYOND");
        range("go", by("island 0"), NavyOfCats::go, 1, 4, 60, 4);
        NavyOfCats x = new NavyOfCats();
        due("none landed", x.go(60), 0);
        due("watch", x.now(0), 60);
        due("one", x.go(1), 0);
        due("watch", x.now(0), 61);
        NavyOfCats eight = withCats(8);
        eight.go(1);
        due("each of the most cats that there can be", eight.count(4), 8);
        eight.storms(1);
        due("each of them", eight.count(4), 16);
        says(12, "A set of CATS is FED: what STORE is then. STATE: STORE is less");
        for (int fed = 1; fed <= 8; fed++) {
            NavyOfCats y = navy("cat hunger 9;cat hunger 9;cat hunger 9;cat hunger 9", "cat hunger 9;cat hunger 9;cat hunger 9;cat hunger 9");
            int set = 255 >> 8 - fed;
            y.store(fed - 1);
            due("one less than " + fed, y.feeds(set), STATE);
            due("none of them is fed", y.count(4), 72);
            due("nothing is used", y.now(1), fed - 1);
            y.store(fed);
            due("just " + fed, y.feeds(set), 0);
            due("they are fed", y.count(4), 72 - 9 * fed);
            due("nothing is left", y.feeds(set), STATE);
            due("nobody is FED of nothing", y.feeds(0), 0);
        }
        NavyOfCats rich = navy("cat;store 9999");
        due("of 9999", rich.feeds(1), 9998);
        says(13, "What 0 WATCH, .. 5 ISLANDS. BEYOND");
        range("now", by("island 5;island 6"), NavyOfCats::now, 0, 0, 5, 2);
        says(13, "3 SHIPS that are LANDED, as a set");
        NavyOfCats ships = navy("island 50;ship 0 at 50");
        due("the first", ships.now(3), 1);
        ships.steer(3, 0, 50);
        due("first and last", ships.now(3), 9);
        ships.island(0, 1);
        due("all", ships.now(3), 15);
        says(13, "4 the greatest HUNGER (0 without CATS)");
        due("without cats", new NavyOfCats().now(4), 0);
        due("without hunger", withCats(8).now(4), 0);
        due("of the last", navy("cat;cat;cat;cat", "cat;cat;cat;cat hunger 99").now(4), 99);
        says(13, "5 ISLANDS");
        NavyOfCats full = new NavyOfCats();
        for (int cell = 0; cell < 100; cell++) {
            due("a new one", full.island(cell, 1), 1);
        }
        due("every cell", full.now(5), 100);
        due("every cell", full.count(2), 100);
        due("none is new", full.island(99, 1), 0);
    }

    /** No object that is used as the document tells comes as far as that; this one is called more often, to see it hold. */
    private static void lastWatch() {
        NavyOfCats x = navy("cat;tom;fish 32768;island 0");
        for (int i = 0; i < 1666; i++) {
            x.go(60);
        }
        due("watch", x.now(0), 99960);
        x.image();
        says(11, "STATE: WATCH would be above 99999");
        due("40 would be 100000", x.go(40), STATE);
        due("60", x.go(60), STATE);
        due("61 is BEYOND first", x.go(61), BEYOND);
        due("watch", x.now(0), 99960);
        due("39", x.go(39), 4);
        due("the last watch", x.now(0), 99999);
        due("one more", x.go(1), STATE);
        due("none is BEYOND", x.go(0), BEYOND);
        due("counted", x.status(4), 3);
        due("the last watch is kept", x.count(0), 99999);
        says(35, "STATE: WATCH would be above 99999");
        due("a storm", x.storms(1), STATE);
        due("21 is BEYOND first", x.storms(21), BEYOND);
        due("undo", x.undo(), 99960);
        due("20", x.storms(20), 4);
        due("20 would be 100000", x.storms(20), STATE);
        due("watch", x.now(0), 99980);
        due("19", x.storms(19), 4);
        due("the last watch", x.now(0), 99999);
        due("one more", x.storms(1), STATE);
        due("the last watch is kept", x.now(0), 99999);
        due("counted", x.status(4), 6);
    }

    // ---- what will be

    private static void whatWillBe() {
        says(14, "Where a SHIP would be behind n (0 to 200) WATCHES. BEYOND");
        range("ahead by n", () -> lateByFish(128), (x, v) -> x.ahead(0, v), 0, 0, 200, 7);
        range("ahead", by("ship 0 at 7;ship 3 at 9"), (x, v) -> x.ahead(v, 0), 0, 7, 3, 9);
        due("behind 199", lateByFish(128).ahead(0, 199), 6);
        says(15, "Behind how many WATCHES (0 to 200, the fewest) a SHIP is LANDED. BEYOND");
        range("lands", by("island 5;ship 0 at 5;ship 3 at 4 order 8"), NavyOfCats::lands, 0, 0, 3, 1);
        says(15, "NONE");
        due("behind 200", lateByFish(128).lands(0), 200);
        due("behind 201", lateByFish(256).lands(0), NONE);
        due("at once", lateByFish(256).lands(1), 0);
        due("no islands", new NavyOfCats().lands(0), NONE);
        says(16, "Behind how many WATCHES (0 to 200, the fewest) two SHIPS are AT one CELL. BEYOND: also one and the same");
        range("meets a", by("ship 3 at 9;ship 2 at 9"), (x, v) -> x.meets(v, 1), 0, 0, 3, NONE);
        range("meets b", by("ship 3 at 9;ship 2 at 9"), (x, v) -> x.meets(1, v), 0, 0, 3, NONE);
        for (int ship = -1; ship <= 4; ship++) {
            due("one and the same", new NavyOfCats().meets(ship, ship), BEYOND);
        }
        says(16, "NONE");
        due("behind 200", lateByFish(128).meets(0, 1), 200);
        due("behind 201", lateByFish(256).meets(0, 1), NONE);
        due("at once", lateByFish(256).meets(2, 3), 0);
        says(17, "Behind how many WATCHES (0 to 60, the fewest) one more moves no SHIP. NONE");
        due("at once", new NavyOfCats().still(), 0);
        due("behind 59", takingTurns(4).still(), 59);
        due("behind 60", takingTurns(3).still(), 60);
        due("it would be 61", takingTurns(2).still(), NONE);
        due("behind 1", navy("ship 3 at 8 order 8").still(), 1);
        says(18, "How a CAT ERRS behind n (0 to 200) WATCHES. BEYOND");
        range("sits by n", by("tom hunger 10;fish 256"), (x, v) -> x.sits(0, v), 0, 1, 200, 11);
        range("sits of 1", cats(1), (x, v) -> x.sits(v, 10), 0, 1, 0, 1);
        range("sits of 8", cats(8), (x, v) -> x.sits(v, 9), 0, 0, 7, 0);
        due("sits of none", new NavyOfCats().sits(0, 0), BEYOND);
    }

    // ---- orders

    private static void orders() {
        String scene = "island 5;ship 0 at 5;ship 3 at 4 order 8";
        says(19, "The ORDER by which a SHIP is LANDED behind the fewest WATCHES (60 at most). BEYOND. NONE");
        range("order", by(scene), NavyOfCats::order, 0, 0, 3, 6);
        due("behind 60", justInTime(2048).order(0), 27);
        due("behind 61", justInTime(4096).order(0), NONE);
        due("no islands", new NavyOfCats().order(0), NONE);
        due("round: 31, 0, 1 and 2 with 7 are east", navy("cat hunger 70;island 56;ship 0 at 55 aboard 1").order(0), 0);
        due("28 to 31 with 10 are east", navy("tom hunger 80;fish 1;island 56;ship 0 at 55 aboard 1").order(0), 28);
        says(20, "How many these are. BEYOND. NONE");
        range("soonest", by(scene), NavyOfCats::soonest, 0, 0, 3, 1);
        due("behind 60", justInTime(2048).soonest(0), 60);
        due("behind 61", justInTime(4096).soonest(0), NONE);
        due("no islands", new NavyOfCats().soonest(0), NONE);
        says(21, "ORDERS by which a SHIP is LANDED at a CELL behind 60 WATCHES, as a set (bits 0 to 31). BEYOND");
        range("orders", by(scene), (x, v) -> x.orders(v, 5), 0, 0xFFFFFFFFL, 3, 0b1111 << 6);
        range("orders at", by("island 0;island 99"), (x, v) -> x.orders(0, v), 0, 0xFFFFFFFFL, 99, 0);
        due("bits 30, 31, 0 and 1", navy("ship 0 at 55;island 45;wind 4").orders(0, 45), 0xC0000003L);
        due("behind 60", justInTime(2048).orders(0, 5), 3L << 27);
        due("behind 61", justInTime(4096).orders(0, 5), 0);
        says(21, "STATE: the CELL is no ISLAND");
        due("one", navy(scene).orders(0, 5), 0xFFFFFFFFL);
        due("none beside it", navy(scene).orders(0, 4), STATE);
        due("none beside it", navy(scene).orders(0, 6), STATE);
        says(22, "The ORDER by which a SHIP is LANDED behind 60 WATCHES by most WINDS (0 to 7, each blowing all along). BEYOND");
        range("surest", by(scene), NavyOfCats::surest, 0, 0, 3, 6);
        due("behind 60", justInTime(2048).surest(0), 27);
        due("behind 61: all by none", justInTime(4096).surest(0), 0);
        says(23, "By how many WINDS that is. BEYOND");
        range("winds", by(scene), NavyOfCats::winds, 0, 8, 3, 7);
        due("behind 60", justInTime(2048).winds(0), 6);
        due("behind 61", justInTime(4096).winds(0), 0);
        says(24, "The WIND by which a SHIP is LANDED behind the fewest WATCHES (60 at most), its ORDER as it is. BEYOND. NONE");
        range("windFor", by(scene), NavyOfCats::windFor, 0, 0, 3, 0);
        due("not by north", navy("ship 0 at 55;island 45").windFor(0), 1);
        due("behind 60", justInTime(2048).windFor(0), 0);
        due("behind 61", justInTime(4096).windFor(0), NONE);
        due("no islands", new NavyOfCats().windFor(0), NONE);
        due("its order leads elsewhere", navy("ship 0 at 55 order 2;island 45").windFor(0), NONE);
        lastWind();
    }

    /** By 29 a ship goes north-west, by 30, behind a watch, north: only wind 7 keeps it from the first, so that it comes to 45. */
    private static void lastWind() {
        NavyOfCats x = navy("cat hunger 9;ship 0 at 55 order 29 aboard 1;island 45");
        due("7 alone", x.windFor(0), 7);
    }

    // ---- who is aboard

    private static void whoIsAboard() {
        says(25, "The set of k (1 to 8) CATS whose mean (as of READS) is nearest to 0 now; of several the least. BEYOND");
        range("crew", cats(8), NavyOfCats::crew, 1, 1, 8, 255);
        due("the last alone", navy("cat hunger 10;cat hunger 10;cat hunger 10;cat").crew(1), 8);
        due("-1 and 1 are as near: the least", navy("cat hunger 10;old hunger 50 habit -1").crew(1), 1);
        due("1 and -1 are as near: the least", navy("old hunger 50 habit -1;cat hunger 10").crew(1), 1);
        says(26, "What that mean is. BEYOND. NONE likewise");
        range("mean", by("cat hunger 10;cat hunger 10;cat hunger 10;cat hunger 10", "cat hunger 10;cat hunger 10;cat hunger 10;cat hunger 10"),
            NavyOfCats::mean, 1, 1, 8, 1);
        due("7 by 8, cut", navy("cat hunger 10;cat hunger 10;cat hunger 10;cat hunger 10", "cat hunger 10;cat hunger 10;cat hunger 10;cat").mean(8), 0);
        due("below 0", navy("old hunger 50 habit -1;cat hunger 10").mean(1), -1);
        says(27, "The CAT that .. brings READS nearest to 0; of several the least. BEYOND. NONE: there are no CATS");
        range("better", by("cat hunger 20;cat hunger 10;ship 3 aboard 1"), NavyOfCats::better, 0, 1, 3, 0);
        due("no cats", new NavyOfCats().better(0), NONE);
        due("one, put aboard", withCats(1).better(0), 0);
        due("one, taken off", navy("cat;ship 0 aboard 1").better(0), 0);
        due("the 8th", navy("cat hunger 20;cat hunger 20;cat hunger 20;cat hunger 20", "cat hunger 20;cat hunger 20;cat hunger 20;cat hunger 10").better(0), 7);
        says(28, "the KIND as which a CAT aboard of a SHIP brings it farthest .. behind n (0 to 40) WATCHES. BEYOND");
        String aboard = "cat;cat;ship 0 aboard 1;ship 3 aboard 1";
        // Along the north all wait but a prize, that goes south by 16, 15 and 14, and a black, that goes east twice (by 6).
        range("spy by n", by(aboard), (x, v) -> x.spy(0, 0, v), 0, 0, 40, 4);
        range("spy", by(aboard), (x, v) -> x.spy(v, 0, 1), 0, 4, 3, 4);
        range("spy of 1", by("cat;ship 0 aboard 1"), (x, v) -> x.spy(0, v, 1), 0, 4, 0, 4);
        range("spy of 8", by("cat;cat;cat;cat", "cat;cat;cat;cat", "ship 0 aboard 255"), (x, v) -> x.spy(0, v, 1), 0, 0, 7, 0);
        due("spy of none", new NavyOfCats().spy(0, 0, 0), BEYOND);
        says(28, "STATE: it is not aboard");
        due("not aboard", navy(aboard).spy(0, 1, 1), STATE);
        due("none aboard", navy(aboard).spy(1, 0, 1), STATE);
        due("no watch", navy(aboard).spy(1, 0, 0), STATE);
        due("the 8th is not aboard", navy("cat;cat;cat;cat", "cat;cat;cat;cat", "ship 0 aboard 127").spy(0, 7, 1), STATE);
        lastKind();
    }

    /** In watch 4 a black sits by 5 (2 as a cat, 2 and 1 as it is): it alone heads east by 6; wind keeps a prize from the south. */
    private static void lastKind() {
        NavyOfCats x = navy("cat hunger 20;ship 0 at 5 order 1 aboard 1;wind 4");
        due("all alike behind 4", x.spy(0, 0, 4), 0);
        due("the last kind, behind 5", x.spy(0, 0, 5), 6);
        due("the kind is as it was", x.of(0, 0), 0);
    }

    // ---- stores

    private static void stores() {
        says(29, "How much STORE is used in n (0 to 200) WATCHES, if ahead of each every CAT whose HUNGER is h (1 to 99) or more is FED. BEYOND");
        range("uses by n", by("cat hunger 1"), (x, v) -> x.uses(v, 1), 0, 0, 200, 200);
        range("uses by h", by("cat hunger 1"), (x, v) -> x.uses(200, v), 1, 200, 99, 2);
        int[][] hungerHAndNAndUsed = {{0, 1, 1, 0}, {0, 1, 2, 1}, {0, 1, 200, 199}, {98, 99, 1, 0}, {98, 99, 2, 1}, {99, 99, 1, 1},
            {99, 99, 99, 1}, {99, 99, 100, 2}, {99, 99, 198, 2}, {99, 99, 199, 3}, {0, 99, 99, 0}, {0, 99, 100, 1}, {0, 99, 198, 1}, {0, 99, 199, 2},
            {50, 50, 1, 1}, {49, 50, 1, 0}};
        for (int[] row : hungerHAndNAndUsed) {
            NavyOfCats x = navy("cat hunger " + row[0]);
            due("hunger " + row[0] + ", h " + row[1] + ", n " + row[2], x.uses(row[2], row[1]), row[3]);
        }
        due("nobody", new NavyOfCats().uses(200, 1), 0);
        due("eight", withCats(8).uses(200, 1), 8 * 199);
        due("more than there is", navy("cat hunger 1;store 0").uses(200, 1), 200);
        says(30, "The least h (1 to 99) with which that is STORE at most. BEYOND. NONE");
        range("hunger", by("cat hunger 1;store 2"), NavyOfCats::hunger, 0, 1, 200, 67);
        int[][] hungerStoreAndNAndH = {{1, 2, 2, 1}, {1, 1, 2, 2}, {1, 0, 2, 3}, {0, 0, 1, 1}, {0, 0, 2, 2}, {0, 0, 99, 99}, {0, 0, 100, NONE},
            {0, 1, 100, 50}, {0, 1, 101, 51}, {0, 1, 198, 99}, {0, 1, 199, NONE}, {99, 0, 1, NONE}, {98, 0, 1, 99}, {99, 1, 1, 1}, {99, 0, 0, 1}};
        for (int[] row : hungerStoreAndNAndH) {
            NavyOfCats x = navy("cat hunger " + row[0] + ";store " + row[1]);
            due("hunger " + row[0] + ", store " + row[1] + ", n " + row[2], x.hunger(row[2]), row[3]);
        }
        due("nobody", navy("store 0").hunger(200), 1);
        due("as much as there can be", navy("cat hunger 1;store 9999").hunger(200), 1);
    }

    // ---- logs

    /** Four sheets, each with no number at all: what is told of nothing is always so. */
    private static NavyOfCats emptySheets(int cats) {
        NavyOfCats x = withCats(cats);
        for (int s = 0; s < 4; s++) {
            x.sheet(s, 8, 0);
        }
        return x;
    }

    private static void logs() {
        says(31, "KINDS, as a set, of which a CAT would .. sit as a sheet tells. BEYOND: no such sheet. MISSING. BEYOND: no such CAT");
        range("kinds by sheet", () -> emptySheets(1), (x, v) -> x.kinds(v, 0), 0, 127, 3, 127);
        range("kinds of 1", () -> emptySheets(1), (x, v) -> x.kinds(0, v), 0, 127, 0, 127);
        range("kinds of 8", () -> emptySheets(8), (x, v) -> x.kinds(0, v), 0, 127, 7, 127);
        due("kinds of none", emptySheets(0).kinds(0, 0), BEYOND);
        says(32, "HABITS (-15 to 15) with which it would: how many. BEYOND: no such sheet. MISSING. BEYOND likewise");
        range("habits by sheet", () -> emptySheets(1), (x, v) -> x.habits(v, 0), 0, 31, 3, 31);
        range("habits of 1", () -> emptySheets(1), (x, v) -> x.habits(0, v), 0, 31, 0, 31);
        range("habits of 8", () -> emptySheets(8), (x, v) -> x.habits(0, v), 0, 31, 7, 31);
        due("habits of none", emptySheets(0).habits(0, 0), BEYOND);
        int[][] toldAndMany = {{-16, 0}, {-15, 1}, {-14, 1}, {-1, 1}, {0, 1}, {15, 1}, {16, 0}};
        for (int[] row : toldAndMany) {
            NavyOfCats x = navy("old hunger 50");
            sheetOf(x, 0, 8, row[0]);
            due("old sat by " + row[0], x.habits(0, 0), row[1]);
            sheetOf(x, 0, 8, 16 - row[0]);
            x.change(0, 0, 4);
            due("prize sat by " + (16 - row[0]), x.habits(0, 0), row[1]);
        }
        says(33, "In how many CELLS a SHIP could be AT now. BEYOND: no such sheet. MISSING. BEYOND: no such SHIP");
        range("begun by sheet", () -> emptySheets(0), (x, v) -> x.begun(v, 0), 0, 100, 3, 100);
        range("begun", () -> emptySheets(0), (x, v) -> x.begun(0, v), 0, 100, 3, 100);
        says(33, "in rows (CELL by 10) as a sheet tells .. (-1: any row)");
        int[][] rowAndCells = {{-2, 0}, {-1, 100}, {0, 10}, {9, 10}, {10, 0}, {127, 0}, {-128, 0}};
        for (int[] row : rowAndCells) {
            NavyOfCats x = new NavyOfCats();
            sheetOf(x, 0, 8, row[0]);
            due("row " + row[0], x.begun(0, 0), row[1]);
            due("the least of row " + row[0], x.from(0, 0), row[1] == 0 ? NONE : 10 * Math.max(row[0], 0));
        }
        says(34, "The least such CELL. BEYOND: no such sheet. MISSING. BEYOND. NONE");
        range("from by sheet", () -> emptySheets(0), (x, v) -> x.from(v, 0), 0, 0, 3, 0);
        range("from", () -> emptySheets(0), (x, v) -> x.from(0, v), 0, 0, 3, 0);
        NavyOfCats last = navy("island 99;ship 0 order 8");
        sheetOf(last, 0, 8, 9);
        due("the first of the last row", last.from(0, 0), 90);
        due("ten", last.begun(0, 0), 10);
        says(31, "MISSING");
        for (int s = 0; s < 4; s++) {
            NavyOfCats x = withCats(1);
            due("kinds", x.kinds(s, 0), MISSING);
            due("habits", x.habits(s, 0), MISSING);
            due("begun", x.begun(s, 0), MISSING);
            due("from", x.from(s, 0), MISSING);
            due("counted", x.status(5), 4);
        }
    }

    /** Logs of forty numbers, as they are told and with another one at the very end. */
    private static void fullLogs() {
        says(31, "now and behind each WATCH further on (how it ERRS)");
        NavyOfCats x = navy("cat hunger 99 habit 4;old hunger 99 habit -15;ship 0 at 42 order 16");
        sheetOf(x, 0, 8, repeated(4, 40));
        due("old by habit, blind by 9", x.kinds(0, 0), 8 + 32);
        x.write(0, 39, 5);
        due("none by the last", x.kinds(0, 0), 0);
        x.write(0, 39, 4);
        x.write(0, 0, 5);
        due("none by the first", x.kinds(0, 0), 0);
        says(32, "HABITS (-15 to 15) with which it would: how many");
        sheetOf(x, 1, 16, repeated(-15, 40));
        due("one", x.habits(1, 1), 1);
        x.write(1, 39, -14);
        due("none by the last", x.habits(1, 1), 0);
        says(33, "now and behind each WATCH further on (-1: any row)");
        sheetOf(x, 2, 32, repeated(-1, 40));
        due("any row, always", x.begun(2, 0), 100);
        due("the least", x.from(2, 0), 0);
        x.write(2, 39, 9);
        due("all are in the south by the last", x.begun(2, 0), 100);
        x.write(2, 0, 1);
        due("those of row 1", x.begun(2, 0), 10);
        due("the least", x.from(2, 0), 10);
        x.write(2, 39, 8);
        due("none by the last", x.begun(2, 0), 0);
        due("none by the last", x.from(2, 0), NONE);
    }

    // ---- storms

    private static void storms() {
        says(35, "n STORMS (1 to 20): how many SHIPS are LANDED. BEYOND");
        range("storms", by("island 0"), NavyOfCats::storms, 1, 4, 20, 4);
        NavyOfCats x = new NavyOfCats();
        due("none landed", x.storms(20), 0);
        due("watch", x.now(0), 20);
        says(36, "The odds that a SHIP, driven once .. is AT an ISLAND then (a LANDED one is) .. (what 0) .. (1). BEYOND");
        range("odds by what", by("ship 0 at 55;island 45;island 46"), (y, v) -> y.odds(0, v), 0, 1, 1, 4);
        range("odds", by("island 5;ship 0 at 5;ship 3 at 4"), (y, v) -> y.odds(v, 1), 0, 1, 3, 8);
        due("none: 0", new NavyOfCats().odds(0, 0), 0);
        due("none: by 1", new NavyOfCats().odds(0, 1), 1);
        due("landed: 1", navy("island 0").odds(0, 0), 1);
        due("landed: by 1", navy("island 0").odds(0, 1), 1);
        NavyOfCats corner = navy("island 1;island 10;island 11;island 9;island 19;island 90;island 99");
        due("three of eight at a corner, none round the sea's end", corner.odds(0, 0), 3);
        due("by eight", corner.odds(0, 1), 8);
        says(37, "How many rows of n (0 to 20) drives there are, each one of eight. BEYOND");
        range("drives", aNew(), NavyOfCats::drives, 0, 1, 20, 1152921504606846976L);
        says(38, "z becomes v: what it was");
        NavyOfCats y = new NavyOfCats();
        due("at first", y.seed(LEAST), 1);
        due("the least", y.seed(MOST), LEAST);
        due("the most", y.seed(0), MOST);
    }

    // ---- spots, sheets

    private static void spots() {
        says(42, "A SPOT holds a CAT, or nothing (-1): 1. BEYOND");
        range("hold by spot", cats(1), (x, v) -> x.hold(v, 0), 0, 1, 9, 1);
        range("hold of 0", cats(0), (x, v) -> x.hold(0, v), -1, 1, -1, 1);
        range("hold of 1", cats(1), (x, v) -> x.hold(0, v), -1, 1, 0, 1);
        range("hold of 8", cats(8), (x, v) -> x.hold(0, v), -1, 1, 7, 1);
        NavyOfCats full = withCats(8);
        for (int spot = 0; spot < 10; spot++) {
            due("hold", full.hold(spot, 7), 1);
            due("spots", full.count(7), spot + 1);
        }
        due("nothing", full.hold(9, -1), 1);
        due("nothing again", full.hold(9, -1), 1);
        due("spots", full.count(7), 9);
        says(43, "What a SPOT holds as one of a kind (0 to 6): the number of the CAT. BEYOND. MISSING. KIND");
        Supplier<NavyOfCats> held = () -> {
            NavyOfCats x = navy("cat;black");
            for (int spot = 0; spot < 10; spot++) {
                x.hold(spot, 1);
            }
            return x;
        };
        range("as by spot", held, (x, v) -> x.as(v, 6), 0, 1, 9, 1);
        range("as by kind", held, (x, v) -> x.as(0, v), 0, 1, 6, 1);
        due("holds nothing", full.as(9, 0), MISSING);
        due("holds one", full.as(8, 0), 7);
        due("isn't of that kind", held.get().as(0, 1), KIND);
        says(0, "1 TOM, 2 KITTEN, 5 BLIND under CAT; 3 OLD under TOM; 4 PRIZE under OLD; 6 BLACK under KITTEN");
        String[] kindsOf = {"0", "01", "02", "013", "0134", "05", "026"};
        for (int kind = 0; kind < 7; kind++) {
            NavyOfCats x = new NavyOfCats();
            x.cat(kind);
            x.hold(5, 0);
            for (int as = 0; as < 7; as++) {
                due("kind " + kind + " as " + as, x.as(5, as), kindsOf[kind].contains("" + as) ? 0 : KIND);
            }
        }
    }

    private static void sheets() {
        says(44, "A sheet has n numbers, all 0, of 8, 16 or 32 bits; bits 0: it is MISSING: n (0 if it is MISSING). BEYOND: no such sheet, other bits");
        range("sheet", aNew(), (x, v) -> x.sheet(v, 8, 40), 0, 40, 3, 40);
        for (int bits = -33; bits <= 65; bits++) {
            boolean fine = bits == 8 || bits == 16 || bits == 32;
            due("bits " + bits, new NavyOfCats().sheet(0, bits, 5), fine ? 5 : bits == 0 ? 0 : BEYOND);
        }
        due("bits least", new NavyOfCats().sheet(0, LEAST, 5), BEYOND);
        due("bits most", new NavyOfCats().sheet(0, MOST, 5), BEYOND);
        due("bits of 256 and 8", new NavyOfCats().sheet(0, 264, 5), BEYOND);
        says(44, "SIZE: n is below 0 (also with bits 0). BEYOND: n is above 40 (also with bits 0)");
        for (int bits : new int[] {0, 8, 16, 32}) {
            int[][] nAndAnswer = {{LEAST, SIZE}, {-1, SIZE}, {0, 0}, {1, 1}, {40, 40}, {41, BEYOND}, {MOST, BEYOND}};
            for (int[] row : nAndAnswer) {
                boolean missing = bits == 0 && row[1] > 0;
                due("bits " + bits + ", n " + row[0], new NavyOfCats().sheet(0, bits, row[0]), missing ? 0 : row[1]);
            }
        }
        NavyOfCats anew = withCats(8);
        sheetOf(anew, 0, 8, repeated(9, 40));
        due("of another length", anew.sheet(0, 8, 8), 8);
        due("load", anew.load(0), 8);
        due("all 0", anew.count(4), 0);
        due("longer again", anew.sheet(0, 8, 40), 40);
        due("where ship 0 is: all 0", anew.judge(0), 0);
        due("of no numbers, but there", anew.sheet(0, 8, 0), 0);
        due("load", anew.load(0), 0);
        due("missing", anew.sheet(0, 0, 0), 0);
        due("load", anew.load(0), MISSING);
        says(45, "Number i of a sheet becomes v (its lowest bits): 1. BEYOND: no such sheet. MISSING. BEYOND: no such number");
        Supplier<NavyOfCats> forty = () -> {
            NavyOfCats x = new NavyOfCats();
            for (int s = 0; s < 4; s++) {
                x.sheet(s, 8, 40);
            }
            return x;
        };
        range("write by sheet", forty, (x, v) -> x.write(v, 0, 1), 0, 1, 3, 1);
        range("write by number", forty, (x, v) -> x.write(0, v, 1), 0, 1, 39, 1);
        due("the only number", written(8, 1, 0), 1);
        due("no second", written(8, 1, 1), BEYOND);
        due("no first of none", written(8, 0, 0), BEYOND);
        due("missing", new NavyOfCats().write(3, 0, 0), MISSING);
        lowestBits();
    }

    private static long written(int bits, int n, int i) {
        NavyOfCats x = new NavyOfCats();
        x.sheet(2, bits, n);
        return x.write(2, i, 1);
    }

    /** A number of a sheet is seen by the cells it agrees with, or by how an old cat sits, or as -1 by any row. */
    private static void lowestBits() {
        says(0, "numbers of 8, 16 or 32 bits (told with their sign: of 8 bits 255 is -1)");
        int[] bits = {8, 16, 32};
        int[] values = {99, -1, 255, 256 + 99, 99 - 256, 65535, 65536 + 99, 99 - 65536, LEAST + 99, MOST, LEAST};
        // What 8, 16 and 32 bits keep of each; 1 where it is 99, -1 where it is -1, 0 where it is some other number.
        int[][] told = {{1, 1, 1}, {-1, -1, -1}, {-1, 0, 0}, {1, 0, 0}, {1, 0, 0}, {-1, -1, 0}, {1, 1, 0}, {1, 1, 0}, {1, 1, 0}, {-1, -1, 0}, {0, 0, 0}};
        for (int v = 0; v < values.length; v++) {
            for (int b = 0; b < bits.length; b++) {
                NavyOfCats x = navy("ship 0 at 99");
                sheetOf(x, 0, bits[b], values[v]);
                due(values[v] + " of " + bits[b] + " bits as 99", x.judge(0), told[v][b] == 1 ? 0 : 1);
                due(values[v] + " of " + bits[b] + " bits as -1", x.begun(0, 0) == 100 ? 1 : 0, told[v][b] == -1 ? 1 : 0);
            }
        }
        NavyOfCats old = navy("old hunger 50");
        sheetOf(old, 0, 8, 241);
        due("241 of 8 bits is -15", old.habits(0, 0), 1);
        sheetOf(old, 0, 16, 65536 - 15);
        due("65521 of 16 bits is -15", old.habits(0, 0), 1);
        sheetOf(old, 0, 32, 65536 - 15);
        due("not of 32", old.habits(0, 0), 0);
    }

    private static NavyOfCats fiveAndThree() {
        NavyOfCats x = withCats(8);
        sheetOf(x, 0, 8, 1, 2, 3, 4, 5);
        sheetOf(x, 3, 8, 11, 12, 13);
        return x;
    }

    /** Numbers of a sheet, one behind another as two digits each, as load() gives them to cats. */
    private static long numbersOf(NavyOfCats x, int s) {
        int came = x.load(s);
        long all = 0;
        for (int cat = 0; cat < came; cat++) {
            all = 100 * all + x.of(cat, 1);
        }
        return all;
    }

    private static void copies() {
        says(46, "BEYOND: no such sheet (either). MISSING: one is. KIND: they are not of as many bits");
        Supplier<NavyOfCats> two = EdgeTest::fiveAndThree;
        due("copy", fiveAndThree().copy(0, 0, 3, 0, 3), 3);
        for (int s : new int[] {LEAST, -1, 4, MOST}) {
            due("from sheet " + s, fiveAndThree().copy(s, 0, 0, 0, 0), BEYOND);
            due("to sheet " + s, fiveAndThree().copy(0, 0, s, 0, 0), BEYOND);
        }
        due("from a missing one", fiveAndThree().copy(1, 0, 0, 0, 0), MISSING);
        due("to a missing one", fiveAndThree().copy(0, 0, 1, 0, 0), MISSING);
        due("both missing", fiveAndThree().copy(1, 0, 2, 0, 0), MISSING);
        int[] bits = {8, 16, 32};
        for (int a : bits) {
            for (int b : bits) {
                NavyOfCats x = new NavyOfCats();
                x.sheet(0, a, 2);
                x.sheet(1, b, 2);
                due("from " + a + " to " + b + " bits", x.copy(0, 0, 1, 0, 2), a == b ? 2 : KIND);
            }
        }
        says(46, "BEYOND: one has not so many, or from, to or n is below 0");
        range("n from the longer", two, (x, v) -> x.copy(0, 0, 3, 0, v), 0, 0, 3, 3);
        range("n to the longer", two, (x, v) -> x.copy(3, 0, 0, 0, v), 0, 0, 3, 3);
        range("n of the same", two, (x, v) -> x.copy(0, 0, 0, 0, v), 0, 0, 5, 5);
        range("from, of one", two, (x, v) -> x.copy(0, v, 3, 0, 1), 0, 1, 4, 1);
        range("to, of one", two, (x, v) -> x.copy(0, 0, 3, v, 1), 0, 1, 2, 1);
        range("from, of none", two, (x, v) -> x.copy(0, v, 3, 0, 0), 0, 0, 5, 0);
        range("to, of none", two, (x, v) -> x.copy(0, 0, 3, v, 0), 0, 0, 3, 0);
        range("n from the last", two, (x, v) -> x.copy(0, 4, 3, 0, v), 0, 0, 1, 1);
        range("n to the last", two, (x, v) -> x.copy(0, 0, 3, 2, v), 0, 0, 1, 1);
        due("from and n most", fiveAndThree().copy(0, MOST, 3, 0, MOST), BEYOND);
        due("to and n most", fiveAndThree().copy(0, 0, 3, MOST, MOST), BEYOND);
        due("from 1 and n most", fiveAndThree().copy(0, 1, 0, 1, MOST), BEYOND);
        says(46, "n numbers of a sheet from one on come to another one from one on (as they all were): n");
        NavyOfCats x = fiveAndThree();
        x.copy(0, 2, 3, 0, 3);
        due("the last three", numbersOf(x, 3), 30405);
        due("whence they came", numbersOf(x, 0), 102030405);
        x.copy(0, 0, 0, 1, 4);
        due("one further on, within", numbersOf(x, 0), 101020304);
        x.copy(0, 1, 0, 0, 4);
        due("and back", numbersOf(x, 0), 102030404);
        x.copy(0, 5, 3, 3, 0);
        due("none", numbersOf(x, 3), 30405);
        NavyOfCats full = navy("ship 0 at 99;island 99");
        sheetOf(full, 0, 16, repeated(99, 40));
        full.sheet(1, 16, 40);
        due("forty", full.copy(0, 0, 1, 0, 40), 40);
        due("all so", full.judge(1), 0);
        full.write(0, 0, 98);
        due("39 further on, within", full.copy(0, 0, 0, 1, 39), 39);
        full.write(0, 0, 99);
        due("the second was the first", full.judge(0), 2);
        full.write(0, 1, 99);
        due("all others as they were", full.judge(0), 0);
    }

    private static void loadsAndJudges() {
        says(47, "Numbers of a sheet, from its begin on, become HUNGER of CATS 0, 1, ..: how many came. BEYOND: no such sheet. MISSING");
        range("load", () -> emptySheets(8), NavyOfCats::load, 0, 0, 3, 0);
        due("missing", withCats(8).load(0), MISSING);
        says(47, "It ends at the first that isn't 0 to 99, or for which there is no CAT");
        int[][] numberAndCame = {{-1, 1}, {0, 3}, {99, 3}, {100, 1}, {-128, 1}, {127, 1}};
        for (int[] row : numberAndCame) {
            NavyOfCats x = navy("cat hunger 50;cat hunger 51;cat hunger 52");
            sheetOf(x, 0, 8, 7, row[0], 8);
            due("with " + row[0], x.load(0), row[1]);
            due("the first came", x.of(0, 1), 7);
            due("the second", x.of(1, 1), row[1] == 1 ? 51 : row[0]);
            due("the third", x.of(2, 1), row[1] == 1 ? 52 : 8);
        }
        for (int cats = 0; cats <= 8; cats++) {
            NavyOfCats x = withCats(cats);
            sheetOf(x, 0, 8, repeated(3, 40));
            due("forty for " + cats, x.load(0), cats);
            due("hunger", x.count(4), 3 * cats);
        }
        NavyOfCats few = navy("cat hunger 50;cat hunger 51");
        sheetOf(few, 0, 8, 1);
        due("one for two", few.load(0), 1);
        due("the second isn't told of", few.of(1, 1), 51);
        says(48, "numbers of a sheet are where SHIP 0 is now and behind each WATCH further on: 0 if so. BEYOND: no such sheet. MISSING");
        range("judge", () -> emptySheets(0), NavyOfCats::judge, 0, 0, 3, 0);
        due("missing", new NavyOfCats().judge(0), MISSING);
        says(48, "else 1 and the place of the first that isn't so");
        NavyOfCats x = navy("ship 0 at 90 order 8");
        int[] way = repeated(99, 40);
        for (int i = 0; i < 10; i++) {
            way[i] = 90 + i;
        }
        sheetOf(x, 0, 8, way);
        due("forty, all so", x.judge(0), 0);
        x.write(0, 39, 98);
        due("the last isn't", x.judge(0), 40);
        x.write(0, 0, 91);
        due("the first isn't", x.judge(0), 1);
        x.steer(0, 0, 91);
        due("now the second isn't", x.judge(0), 2);
        x.steer(1, 0, 5);
        sheetOf(x, 0, 8, 5);
        due("another ship's", x.judge(0), 1);
    }

    // ---- images

    private static void images() {
        says(50, "It becomes what was kept latest (which stays): WATCH. NONE: nothing is kept");
        NavyOfCats x = new NavyOfCats();
        due("nothing", x.undo(), NONE);
        says(49, "All but THE TAPE and SHEETS is kept: 1");
        due("the first", x.image(), 1);
        due("undo at once", x.undo(), 0);
        x.go(60);
        due("another", x.image(), 1);
        x.go(1);
        due("the latest", x.undo(), 60);
        due("which stays", x.undo(), 60);
        says(51, "Nothing is kept: 1 if something was, else 0");
        due("something", x.tear(), 1);
        due("nothing", x.tear(), 0);
        due("undo", x.undo(), NONE);
        due("watch", x.now(0), 60);
        says(49, "All but THE TAPE and SHEETS is kept");
        NavyOfCats full = withCats(8);
        full.image();
        full.cat(0);
        feed(full, "wind 7");
        full.sheet(0, 8, 1);
        due("undo", full.undo(), 0);
        due("the tape isn't kept", full.count(5), 6);
        due("sheets aren't", full.judge(0), 0);
        due("findings aren't", full.status(1), 1);
        due("still full", full.cat(0), FULL);
        NavyOfCats empty = new NavyOfCats();
        empty.image();
        for (int cat = 0; cat < 8; cat++) {
            empty.cat(6);
            empty.change(cat, 1, 9);
            empty.change(cat, 2, 9);
            empty.hold(cat, cat);
        }
        empty.steer(0, 2, 255);
        due("undo", empty.undo(), 0);
        due("no cats", empty.count(1), 0);
        due("no cat", empty.of(0, 0), BEYOND);
        due("none aboard", empty.ship(0, 2), 0);
        due("none held", empty.count(7), 0);
        due("a first one", empty.cat(0), 0);
        due("as at first", empty.of(0, 1) + empty.of(0, 2), 0);
    }

    private static void countsAndStatus() {
        says(52, "0 WATCH, .. 7 SPOTS that hold something. BEYOND: another what");
        Supplier<NavyOfCats> held = () -> {
            NavyOfCats x = withCats(1);
            x.hold(4, 0);
            x.go(3);
            return x;
        };
        range("count", held, NavyOfCats::count, 0, 3, 7, 1);
        NavyOfCats hungry = navy("cat hunger 99;cat hunger 99;cat hunger 99;cat hunger 99", "cat hunger 99;cat hunger 99;cat hunger 99;cat hunger 99");
        due("4 HUNGER of all together", hungry.count(4), 792);
        due("3 SHIPS that are LANDED", navy("island 0").count(3), 4);
        says(53, "How many acts answered a finding ever (undo() takes none back): which -1: all, 0 to 6: BEYOND to SIZE");
        Supplier<NavyOfCats> sized = () -> {
            NavyOfCats x = new NavyOfCats();
            x.image();
            x.sheet(0, 8, -1);
            x.sheet(0, 8, -1);
            x.cat(7);
            x.undo();
            return x;
        };
        range("status", sized, NavyOfCats::status, -1, 3, 6, 2);
        says(53, "BEYOND (counted from then on): another one");
        NavyOfCats x = new NavyOfCats();
        due("none yet", x.status(-1), 0);
        due("7", x.status(7), BEYOND);
        due("counted", x.status(0), 1);
        due("-2", x.status(-2), BEYOND);
        due("counted", x.status(0), 2);
        due("all", x.status(-1), 2);
        due("status alone is no finding", x.status(-1), 2);
    }
}
