import java.util.ArrayList;
import java.util.List;
import java.util.function.Supplier;
import java.util.function.ToLongFunction;

/**
 * "One that answers a finding changes nothing but status()": behind each refused call, all that can be asked of an
 * object is asked, and answers as it does without that call; status() alone knows of it. So it is with calls
 * that only ask, but that status() doesn't know of them, and with a text that has a fault, but for its tape.
 */
public final class RefusedTest extends Checks {
    /** All that can be seen of a navy that is made, without any further call. */
    private static final class Scene {
        final String name;
        final Supplier<NavyOfCats> made;
        final List<Long> seen;

        Scene(String name, Supplier<NavyOfCats> made) {
            this.name = name;
            this.made = made;
            this.seen = everything(made.get());
        }

        void refused(int finding, String call, ToLongFunction<NavyOfCats> act) {
            NavyOfCats x = made.get();
            due(name + ": " + call, act.applyAsLong(x), finding);
            List<Long> expected = new ArrayList<>(seen);
            expected.set(0, expected.get(0) + 1);
            int which = 1 + BEYOND - finding;
            expected.set(which, expected.get(which) + 1);
            same(call, everything(x), expected);
        }

        void asked(long answer, String call, ToLongFunction<NavyOfCats> act) {
            NavyOfCats x = made.get();
            due(name + ": " + call, act.applyAsLong(x), answer);
            same(call, everything(x), seen);
        }

        void same(String call, List<Long> got, List<Long> expected) {
            due(name + ": how much is seen behind " + call, got.size(), expected.size());
            for (int i = 0; i < Math.min(got.size(), expected.size()); i++) {
                due(name + ": answer " + i + " of all behind " + call, got.get(i), expected.get(i));
            }
        }
    }

    public static void main(String[] args) {
        says(0, "one that answers a finding changes nothing but status()");
        Scene busy = new Scene("busy", RefusedTest::busy);
        refusedOfCatsShipsSea(busy);
        refusedLooksAhead(busy);
        refusedLogsAndStorms(busy);
        refusedSheets(busy);
        refusedByState(busy);
        Scene empty = new Scene("empty", NavyOfCats::new);
        refusedOfNothing(empty);
        refusedOfFull(new Scene("full", RefusedTest::full));
        says(0, "what will be (nothing changes)");
        asksOfCatsAndShips(busy);
        asksAhead(busy);
        asksOfAllElse(busy);
        says(41, "With a FAULT: .. (nothing changes but that THE TAPE is empty; no finding)");
        faultyTexts();
        end("RefusedTest");
    }

    /** Something of everything: what it was when the image was kept differs from what it is. */
    private static NavyOfCats busy() {
        NavyOfCats x = navy("prize hunger 41 habit -15;old hunger 32 habit 15;kitten hunger 7;island 3;island 96",
            "wind 6;fish 4660;store 4;ship 0 at 50 order 4 aboard 3;ship 3 at 96 order 9 aboard 5");
        x.hold(2, 1);
        x.hold(7, 0);
        x.seed(-77);
        x.go(3);
        x.image();
        told(x, "black hunger 66 habit 3;island 44;wind 3;fish 257;store 2;ship 1 at 9 order 20 aboard 12");
        x.hold(2, 3);
        x.hold(9, 2);
        x.storms(1);
        sheetOf(x, 0, 8, 10, 20, 30);
        sheetOf(x, 1, 16, 40, 50);
        x.sheet(2, 8, 0);
        feed(x, "store 77;island 8");
        return x;
    }

    private static NavyOfCats full() {
        NavyOfCats x = withCats(8);
        x.store(7);
        feed(x, "tom;".repeat(30));
        return x;
    }

    /**
     * Answers to all that can be asked; the first eight are those of status(), from all on. The calls behind them
     * change what they ask for, but only once it has been told.
     */
    private static List<Long> everything(NavyOfCats x) {
        List<Long> seen = new ArrayList<>();
        for (int which = -1; which < 7; which++) {
            seen.add((long) x.status(which));
        }
        navyOf(x, seen);
        sheetsOf(x, seen);
        islandsOf(x, seen);
        // What the tape holds is seen by reading it.
        seen.add((long) x.text());
        for (int what = 0; what < 6; what++) {
            seen.add((long) x.now(what));
        }
        seen.add((long) x.undo());
        navyOf(x, seen);
        islandsOf(x, seen);
        seen.add((long) x.tear());
        return seen;
    }

    private static void navyOf(NavyOfCats x, List<Long> seen) {
        for (int what = 0; what < 8; what++) {
            seen.add((long) x.count(what));
        }
        for (int what = 0; what < 6; what++) {
            seen.add((long) x.now(what));
        }
        for (int cat = 0; cat < x.count(1); cat++) {
            for (int what = 0; what < 3; what++) {
                seen.add((long) x.of(cat, what));
            }
        }
        for (int ship = 0; ship < 4; ship++) {
            for (int what = 0; what < 3; what++) {
                seen.add((long) x.ship(ship, what));
            }
        }
        for (int spot = 0; spot < 10; spot++) {
            seen.add((long) x.as(spot, 0));
        }
        seen.add((long) x.fish(0));
        seen.add((long) x.seed(0));
    }

    /** Bits and lengths of sheets are seen by what copy() of no numbers answers, numbers by load(). */
    private static void sheetsOf(NavyOfCats x, List<Long> seen) {
        for (int s = 0; s < 4; s++) {
            for (int t = 0; t <= s; t++) {
                seen.add((long) x.copy(s, 0, t, 0, 0));
            }
            for (int length = 1; length <= 4; length++) {
                seen.add((long) x.copy(s, length, s, length, 0));
            }
            int came = x.load(s);
            seen.add((long) came);
            for (int cat = 0; cat < came; cat++) {
                seen.add((long) x.of(cat, 1));
            }
        }
    }

    private static void islandsOf(NavyOfCats x, List<Long> seen) {
        for (int cell = 0; cell < 100; cell++) {
            seen.add((long) x.island(cell, 0));
        }
    }

    private static void refusedOfCatsShipsSea(Scene busy) {
        busy.refused(BEYOND, "cat(-1)", x -> x.cat(-1));
        busy.refused(BEYOND, "cat(7)", x -> x.cat(7));
        busy.refused(BEYOND, "of(4, 0)", x -> x.of(4, 0));
        busy.refused(BEYOND, "of(-1, 0)", x -> x.of(-1, 0));
        busy.refused(BEYOND, "of(0, 4)", x -> x.of(0, 4));
        busy.refused(BEYOND, "of(0, -1)", x -> x.of(0, -1));
        busy.refused(BEYOND, "change(4, 1, 5)", x -> x.change(4, 1, 5));
        busy.refused(BEYOND, "change(-1, 1, 5)", x -> x.change(-1, 1, 5));
        busy.refused(BEYOND, "change(0, 3, 5)", x -> x.change(0, 3, 5));
        busy.refused(BEYOND, "change(0, -1, 5)", x -> x.change(0, -1, 5));
        busy.refused(BEYOND, "change(0, 0, 7)", x -> x.change(0, 0, 7));
        busy.refused(BEYOND, "change(0, 0, -1)", x -> x.change(0, 0, -1));
        busy.refused(BEYOND, "change(0, 1, 100)", x -> x.change(0, 1, 100));
        busy.refused(BEYOND, "change(0, 1, -1)", x -> x.change(0, 1, -1));
        busy.refused(BEYOND, "change(0, 2, 16)", x -> x.change(0, 2, 16));
        busy.refused(BEYOND, "change(0, 2, -16)", x -> x.change(0, 2, -16));
        busy.refused(BEYOND, "ship(4, 0)", x -> x.ship(4, 0));
        busy.refused(BEYOND, "ship(-1, 0)", x -> x.ship(-1, 0));
        busy.refused(BEYOND, "ship(0, 7)", x -> x.ship(0, 7));
        busy.refused(BEYOND, "ship(0, -1)", x -> x.ship(0, -1));
        busy.refused(BEYOND, "steer(4, 0, 5)", x -> x.steer(4, 0, 5));
        busy.refused(BEYOND, "steer(-1, 0, 5)", x -> x.steer(-1, 0, 5));
        busy.refused(BEYOND, "steer(0, 3, 5)", x -> x.steer(0, 3, 5));
        busy.refused(BEYOND, "steer(0, -1, 5)", x -> x.steer(0, -1, 5));
        busy.refused(BEYOND, "steer(0, 0, 100)", x -> x.steer(0, 0, 100));
        busy.refused(BEYOND, "steer(0, 0, -1)", x -> x.steer(0, 0, -1));
        busy.refused(BEYOND, "steer(0, 1, 32)", x -> x.steer(0, 1, 32));
        busy.refused(BEYOND, "steer(0, 1, -1)", x -> x.steer(0, 1, -1));
        busy.refused(BEYOND, "steer(0, 2, 16)", x -> x.steer(0, 2, 16));
        busy.refused(BEYOND, "steer(0, 2, -1)", x -> x.steer(0, 2, -1));
        busy.refused(BEYOND, "island(100, 1)", x -> x.island(100, 1));
        busy.refused(BEYOND, "island(-1, 1)", x -> x.island(-1, 1));
        busy.refused(BEYOND, "island(3, 2)", x -> x.island(3, 2));
        busy.refused(BEYOND, "island(3, -1)", x -> x.island(3, -1));
        busy.refused(BEYOND, "wind(8)", x -> x.wind(8));
        busy.refused(BEYOND, "wind(-1)", x -> x.wind(-1));
        busy.refused(BEYOND, "fish(65536)", x -> x.fish(65536));
        busy.refused(BEYOND, "fish(-1)", x -> x.fish(-1));
        busy.refused(BEYOND, "store(10000)", x -> x.store(10000));
        busy.refused(BEYOND, "store(-1)", x -> x.store(-1));
        busy.refused(BEYOND, "go(0)", x -> x.go(0));
        busy.refused(BEYOND, "go(61)", x -> x.go(61));
        busy.refused(BEYOND, "feeds(16)", x -> x.feeds(16));
        busy.refused(BEYOND, "feeds(-1)", x -> x.feeds(-1));
        busy.refused(BEYOND, "now(6)", x -> x.now(6));
        busy.refused(BEYOND, "now(-1)", x -> x.now(-1));
    }

    private static void refusedLooksAhead(Scene busy) {
        busy.refused(BEYOND, "ahead(4, 0)", x -> x.ahead(4, 0));
        busy.refused(BEYOND, "ahead(-1, 0)", x -> x.ahead(-1, 0));
        busy.refused(BEYOND, "ahead(0, 201)", x -> x.ahead(0, 201));
        busy.refused(BEYOND, "ahead(0, -1)", x -> x.ahead(0, -1));
        busy.refused(BEYOND, "lands(4)", x -> x.lands(4));
        busy.refused(BEYOND, "lands(-1)", x -> x.lands(-1));
        busy.refused(BEYOND, "meets(0, 4)", x -> x.meets(0, 4));
        busy.refused(BEYOND, "meets(-1, 0)", x -> x.meets(-1, 0));
        busy.refused(BEYOND, "meets(2, 2)", x -> x.meets(2, 2));
        busy.refused(BEYOND, "sits(4, 0)", x -> x.sits(4, 0));
        busy.refused(BEYOND, "sits(-1, 0)", x -> x.sits(-1, 0));
        busy.refused(BEYOND, "sits(0, 201)", x -> x.sits(0, 201));
        busy.refused(BEYOND, "sits(0, -1)", x -> x.sits(0, -1));
        busy.refused(BEYOND, "order(4)", x -> x.order(4));
        busy.refused(BEYOND, "order(-1)", x -> x.order(-1));
        busy.refused(BEYOND, "soonest(4)", x -> x.soonest(4));
        busy.refused(BEYOND, "soonest(-1)", x -> x.soonest(-1));
        busy.refused(BEYOND, "orders(4, 3)", x -> x.orders(4, 3));
        busy.refused(BEYOND, "orders(-1, 3)", x -> x.orders(-1, 3));
        busy.refused(BEYOND, "orders(0, 100)", x -> x.orders(0, 100));
        busy.refused(BEYOND, "orders(0, -1)", x -> x.orders(0, -1));
        busy.refused(BEYOND, "surest(4)", x -> x.surest(4));
        busy.refused(BEYOND, "surest(-1)", x -> x.surest(-1));
        busy.refused(BEYOND, "winds(4)", x -> x.winds(4));
        busy.refused(BEYOND, "winds(-1)", x -> x.winds(-1));
        busy.refused(BEYOND, "windFor(4)", x -> x.windFor(4));
        busy.refused(BEYOND, "windFor(-1)", x -> x.windFor(-1));
        busy.refused(BEYOND, "crew(0)", x -> x.crew(0));
        busy.refused(BEYOND, "crew(9)", x -> x.crew(9));
        busy.refused(BEYOND, "mean(0)", x -> x.mean(0));
        busy.refused(BEYOND, "mean(9)", x -> x.mean(9));
        busy.refused(BEYOND, "better(4)", x -> x.better(4));
        busy.refused(BEYOND, "better(-1)", x -> x.better(-1));
        busy.refused(BEYOND, "spy(4, 0, 1)", x -> x.spy(4, 0, 1));
        busy.refused(BEYOND, "spy(-1, 0, 1)", x -> x.spy(-1, 0, 1));
        busy.refused(BEYOND, "spy(0, 4, 1)", x -> x.spy(0, 4, 1));
        busy.refused(BEYOND, "spy(0, -1, 1)", x -> x.spy(0, -1, 1));
        busy.refused(BEYOND, "spy(0, 0, 41)", x -> x.spy(0, 0, 41));
        busy.refused(BEYOND, "spy(0, 0, -1)", x -> x.spy(0, 0, -1));
        busy.refused(BEYOND, "uses(201, 1)", x -> x.uses(201, 1));
        busy.refused(BEYOND, "uses(-1, 1)", x -> x.uses(-1, 1));
        busy.refused(BEYOND, "uses(1, 0)", x -> x.uses(1, 0));
        busy.refused(BEYOND, "uses(1, 100)", x -> x.uses(1, 100));
        busy.refused(BEYOND, "hunger(201)", x -> x.hunger(201));
        busy.refused(BEYOND, "hunger(-1)", x -> x.hunger(-1));
    }

    private static void refusedLogsAndStorms(Scene busy) {
        for (int s : new int[] {-1, 4}) {
            busy.refused(BEYOND, "kinds of sheet " + s, x -> x.kinds(s, 0));
            busy.refused(BEYOND, "habits of sheet " + s, x -> x.habits(s, 0));
            busy.refused(BEYOND, "begun of sheet " + s, x -> x.begun(s, 0));
            busy.refused(BEYOND, "from of sheet " + s, x -> x.from(s, 0));
        }
        busy.refused(MISSING, "kinds(3, 0)", x -> x.kinds(3, 0));
        busy.refused(MISSING, "habits(3, 0)", x -> x.habits(3, 0));
        busy.refused(MISSING, "begun(3, 0)", x -> x.begun(3, 0));
        busy.refused(MISSING, "from(3, 0)", x -> x.from(3, 0));
        for (int which : new int[] {-1, 4}) {
            busy.refused(BEYOND, "kinds of cat " + which, x -> x.kinds(0, which));
            busy.refused(BEYOND, "habits of cat " + which, x -> x.habits(0, which));
            busy.refused(BEYOND, "begun of ship " + which, x -> x.begun(0, which));
            busy.refused(BEYOND, "from of ship " + which, x -> x.from(0, which));
            busy.refused(BEYOND, "odds of ship " + which, x -> x.odds(which, 0));
        }
        busy.refused(NONE, "from(0, 0)", x -> x.from(0, 0));
        busy.refused(BEYOND, "storms(0)", x -> x.storms(0));
        busy.refused(BEYOND, "storms(21)", x -> x.storms(21));
        busy.refused(BEYOND, "odds(0, 2)", x -> x.odds(0, 2));
        busy.refused(BEYOND, "odds(0, -1)", x -> x.odds(0, -1));
        busy.refused(BEYOND, "drives(21)", x -> x.drives(21));
        busy.refused(BEYOND, "drives(-1)", x -> x.drives(-1));
        busy.refused(BEYOND, "feed(0, 0)", x -> x.feed(0, 0));
        busy.refused(BEYOND, "feed(0, 5)", x -> x.feed(0, 5));
    }

    private static void refusedSheets(Scene busy) {
        busy.refused(BEYOND, "hold(10, 0)", x -> x.hold(10, 0));
        busy.refused(BEYOND, "hold(-1, 0)", x -> x.hold(-1, 0));
        busy.refused(BEYOND, "hold(2, 4)", x -> x.hold(2, 4));
        busy.refused(BEYOND, "hold(2, -2)", x -> x.hold(2, -2));
        busy.refused(BEYOND, "as(10, 0)", x -> x.as(10, 0));
        busy.refused(BEYOND, "as(-1, 0)", x -> x.as(-1, 0));
        busy.refused(BEYOND, "as(2, 7)", x -> x.as(2, 7));
        busy.refused(BEYOND, "as(2, -1)", x -> x.as(2, -1));
        busy.refused(MISSING, "as(0, 0)", x -> x.as(0, 0));
        busy.refused(KIND, "as(2, 1)", x -> x.as(2, 1));
        busy.refused(BEYOND, "sheet(4, 8, 1)", x -> x.sheet(4, 8, 1));
        busy.refused(BEYOND, "sheet(-1, 8, 1)", x -> x.sheet(-1, 8, 1));
        busy.refused(BEYOND, "sheet(0, 7, 1)", x -> x.sheet(0, 7, 1));
        busy.refused(SIZE, "sheet(0, 8, -1)", x -> x.sheet(0, 8, -1));
        busy.refused(SIZE, "sheet(0, 0, -1)", x -> x.sheet(0, 0, -1));
        busy.refused(BEYOND, "sheet(0, 8, 41)", x -> x.sheet(0, 8, 41));
        busy.refused(BEYOND, "sheet(0, 0, 41)", x -> x.sheet(0, 0, 41));
        busy.refused(BEYOND, "write(4, 0, 5)", x -> x.write(4, 0, 5));
        busy.refused(BEYOND, "write(-1, 0, 5)", x -> x.write(-1, 0, 5));
        busy.refused(MISSING, "write(3, 0, 5)", x -> x.write(3, 0, 5));
        busy.refused(BEYOND, "write(0, 3, 5)", x -> x.write(0, 3, 5));
        busy.refused(BEYOND, "write(0, -1, 5)", x -> x.write(0, -1, 5));
        busy.refused(BEYOND, "write(2, 0, 5)", x -> x.write(2, 0, 5));
        busy.refused(BEYOND, "copy(4, 0, 0, 0, 1)", x -> x.copy(4, 0, 0, 0, 1));
        busy.refused(BEYOND, "copy(0, 0, -1, 0, 1)", x -> x.copy(0, 0, -1, 0, 1));
        busy.refused(MISSING, "copy(3, 0, 0, 0, 1)", x -> x.copy(3, 0, 0, 0, 1));
        busy.refused(MISSING, "copy(0, 0, 3, 0, 1)", x -> x.copy(0, 0, 3, 0, 1));
        busy.refused(KIND, "copy(0, 0, 1, 0, 1)", x -> x.copy(0, 0, 1, 0, 1));
        busy.refused(BEYOND, "copy(0, 1, 0, 0, 3)", x -> x.copy(0, 1, 0, 0, 3));
        busy.refused(BEYOND, "copy(0, 0, 0, 1, 3)", x -> x.copy(0, 0, 0, 1, 3));
        busy.refused(BEYOND, "copy(0, 0, 2, 0, 1)", x -> x.copy(0, 0, 2, 0, 1));
        busy.refused(BEYOND, "copy(0, -1, 0, 0, 2)", x -> x.copy(0, -1, 0, 0, 2));
        busy.refused(BEYOND, "copy(0, 0, 0, -1, 2)", x -> x.copy(0, 0, 0, -1, 2));
        busy.refused(BEYOND, "copy(0, 0, 0, 1, -1)", x -> x.copy(0, 0, 0, 1, -1));
        for (int s : new int[] {-1, 4}) {
            busy.refused(BEYOND, "load of sheet " + s, x -> x.load(s));
            busy.refused(BEYOND, "judge of sheet " + s, x -> x.judge(s));
        }
        busy.refused(MISSING, "load(3)", x -> x.load(3));
        busy.refused(MISSING, "judge(3)", x -> x.judge(3));
        busy.refused(BEYOND, "count(8)", x -> x.count(8));
        busy.refused(BEYOND, "count(-1)", x -> x.count(-1));
        busy.refused(BEYOND, "status(7)", x -> x.status(7));
        busy.refused(BEYOND, "status(-2)", x -> x.status(-2));
    }

    /** Calls whose arguments are fine, but not as things are: three cats to be fed of 2, a cell without an island. */
    private static void refusedByState(Scene busy) {
        busy.refused(STATE, "feeds(7)", x -> x.feeds(7));
        busy.refused(STATE, "orders(0, 50)", x -> x.orders(0, 50));
        busy.refused(NONE, "crew(5)", x -> x.crew(5));
        busy.refused(NONE, "mean(5)", x -> x.mean(5));
        busy.refused(STATE, "spy(0, 2, 40)", x -> x.spy(0, 2, 40));
        busy.refused(NONE, "hunger(200)", x -> x.hunger(200));
    }

    private static void refusedOfNothing(Scene empty) {
        empty.refused(BEYOND, "of(0, 0)", x -> x.of(0, 0));
        empty.refused(BEYOND, "steer(0, 2, 1)", x -> x.steer(0, 2, 1));
        empty.refused(BEYOND, "feeds(1)", x -> x.feeds(1));
        empty.refused(NONE, "lands(0)", x -> x.lands(0));
        empty.refused(NONE, "order(0)", x -> x.order(0));
        empty.refused(NONE, "soonest(0)", x -> x.soonest(0));
        empty.refused(STATE, "orders(0, 0)", x -> x.orders(0, 0));
        empty.refused(NONE, "windFor(0)", x -> x.windFor(0));
        empty.refused(NONE, "crew(1)", x -> x.crew(1));
        empty.refused(NONE, "mean(1)", x -> x.mean(1));
        empty.refused(NONE, "better(0)", x -> x.better(0));
        empty.refused(BEYOND, "hold(0, 0)", x -> x.hold(0, 0));
        empty.refused(MISSING, "load(0)", x -> x.load(0));
        empty.refused(NONE, "undo()", x -> x.undo());
        Scene apart = new Scene("apart", () -> navy("ship 1 at 9"));
        apart.refused(NONE, "meets(0, 1)", x -> x.meets(0, 1));
        Scene turns = new Scene("turns", () -> takingTurns(2));
        turns.refused(NONE, "still()", x -> x.still());
    }

    private static void refusedOfFull(Scene full) {
        full.refused(FULL, "cat(6)", x -> x.cat(6));
        full.refused(STATE, "feeds(255)", x -> x.feeds(255));
        for (int n = 1; n <= 4; n++) {
            int bytes = n;
            full.refused(FULL, "feed of " + n, x -> x.feed(0x20202020, bytes));
        }
        Scene nearly = new Scene("nearly full", () -> {
            NavyOfCats x = withCats(7);
            feed(x, "tom;".repeat(29) + "tom");
            return x;
        });
        nearly.refused(FULL, "feed of 2", x -> x.feed(0x2020, 2));
    }

    // ---- calls that only ask

    private static void asksOfCatsAndShips(Scene busy) {
        busy.asked(6, "of(3, 0)", x -> x.of(3, 0));
        busy.asked(67, "of(3, 1)", x -> x.of(3, 1));
        busy.asked(3, "of(3, 2)", x -> x.of(3, 2));
        // Watch 4, hunger 67: 6, 2 and 1.
        busy.asked(9, "of(3, 3)", x -> x.of(3, 3));
        busy.asked(4, "ship(0, 1)", x -> x.ship(0, 1));
        busy.asked(12, "ship(1, 2)", x -> x.ship(1, 2));
        busy.asked(1, "ship(3, 6)", x -> x.ship(3, 6));
        busy.asked(96, "ship(3, 5)", x -> x.ship(3, 5));
        busy.asked(4, "now(0)", x -> x.now(0));
        busy.asked(3, "now(5)", x -> x.now(5));
        busy.asked(4, "count(1)", x -> x.count(1));
        busy.asked(17, "count(5)", x -> x.count(5));
        busy.asked(0, "status(-1)", x -> x.status(-1));
        busy.asked(3, "as(2, 2)", x -> x.as(2, 2));
        busy.asked(0, "as(7, 3)", x -> x.as(7, 3));
    }

    private static void asksAhead(Scene busy) {
        busy.asked(96, "ahead(3, 200)", x -> x.ahead(3, 200));
        busy.asked(0, "lands(3)", x -> x.lands(3));
        // Now 45 and 36 have gone 4 watches further: the prize has 50 behind 5 more.
        busy.asked(16 - -15, "sits(0, 200)", x -> x.sits(0, 200));
        busy.asked(15, "sits(1, 14)", x -> x.sits(1, 14));
        busy.asked(0, "order(3)", x -> x.order(3));
        busy.asked(0, "soonest(3)", x -> x.soonest(3));
        busy.asked(0xFFFFFFFFL, "orders(3, 96)", x -> x.orders(3, 96));
        busy.asked(0, "surest(3)", x -> x.surest(3));
        busy.asked(8, "winds(3)", x -> x.winds(3));
        busy.asked(0, "windFor(3)", x -> x.windFor(3));
        busy.asked(15, "crew(4)", x -> x.crew(4));
        // They err 12, 3, 3 (1 and 2) and 9: 27 by 4.
        busy.asked(6, "mean(4)", x -> x.mean(4));
        // Ship 2 has none aboard: the second is nearest to 0, by 3.
        busy.asked(1, "better(2)", x -> x.better(2));
        busy.asked(0, "spy(3, 0, 40)", x -> x.spy(3, 0, 40));
        // Hungers 45, 36, 11 and 67, all at once and then each watch.
        busy.asked(800, "uses(200, 1)", x -> x.uses(200, 1));
        busy.asked(1, "hunger(0)", x -> x.hunger(0));
    }

    private static void asksOfAllElse(Scene busy) {
        busy.asked(127, "kinds(2, 3)", x -> x.kinds(2, 3));
        busy.asked(31, "habits(2, 3)", x -> x.habits(2, 3));
        busy.asked(100, "begun(2, 3)", x -> x.begun(2, 3));
        busy.asked(0, "from(2, 3)", x -> x.from(2, 3));
        busy.asked(1, "odds(3, 0)", x -> x.odds(3, 0));
        busy.asked(64, "drives(2)", x -> x.drives(2));
        busy.asked(1, "judge(0)", x -> x.judge(0));
        busy.asked(0, "judge(2)", x -> x.judge(2));
        busy.asked(0, "copy(0, 1, 2, 0, 0)", x -> x.copy(0, 1, 2, 0, 0));
        busy.asked(3, "copy(0, 0, 0, 0, 3)", x -> x.copy(0, 0, 0, 0, 3));
        busy.asked(0, "another object's calls", x -> navy("cat;wind 7").undo() - NONE);
        // What is told once more changes nothing either.
        busy.asked(2, "feeds(0)", x -> x.feeds(0));
        busy.asked(0, "island(3, 1)", x -> x.island(3, 1));
        busy.asked(3, "wind(3)", x -> x.wind(3));
        busy.asked(257, "fish(257)", x -> x.fish(257));
        busy.asked(2, "store(2)", x -> x.store(2));
        busy.asked(1, "hold(0, -1)", x -> x.hold(0, -1));
        busy.asked(0, "sheet(3, 0, 40)", x -> x.sheet(3, 0, 40));
        Scene quiet = new Scene("quiet", () -> navy("wind 0"));
        quiet.asked(0, "still()", x -> x.still());
        quiet.asked(0, "meets(0, 1)", x -> x.meets(0, 1));
        quiet.asked(0, "tear()", x -> x.tear());
        quiet.asked(0, "wipe()", x -> x.wipe());
        quiet.asked(-1, "text()", x -> x.text());
        quiet.asked(1, "seed(1)", x -> x.seed(1));
    }

    // ---- texts with a fault

    /** Each leaves all as it was but the tape, which is as empty as behind wipe(). */
    private static void faultyTexts() {
        Scene wiped = new Scene("wiped", () -> {
            NavyOfCats x = busy();
            x.wipe();
            return x;
        });
        String told = "tom hunger 5 habit -5;prize;fish 1;store 9;wind 0;ship 0 at 1 order 1 aboard 1;ship 3 at 9;island 9;";
        wiped.asked(-1 - told.length(), "a fault at the end", x -> told(x, told));
        wiped.asked(-1 - told.length() - 7, "a cell that isn't", x -> told(x, told + "island 100"));
        wiped.asked(-1 - 16, "a 9th cat", x -> told(x, "cat;cat;cat;cat;cat;wind 1"));
        wiped.asked(-1 - 14, "a cat that isn't", x -> told(x, "ship 0 aboard 16"));
        wiped.asked(-1 - 3, "a byte that begins no token", x -> told(x, "tom\t"));
        wiped.asked(-1, "nothing at all", x -> x.text());
    }
}
