import java.util.function.LongSupplier;

/** Each promise of the document by itself, with answers worked out by hand from its words. */
public final class PromiseTest extends Checks {
    public static void main(String[] args) {
        catsShipsSea();
        watches();
        whatWillBe();
        orders();
        whoIsAboard();
        stores();
        logs();
        storms();
        texts();
        spotsAndSheets();
        images();
        end("PromiseTest");
    }

    private static void catsShipsSea() {
        promise(1); aNewObject();
        promise(2); cat();
        promise(3); of();
        promise(4); change();
        promise(5); ship();
        promise(6); steer();
        promise(7); island();
        promise(8); wind();
        promise(9); fish();
        promise(10); store();
    }

    private static void aNewObject() {
        NavyOfCats x = new NavyOfCats();
        for (int what = 0; what < 8; what++) {
            due("count " + what, x.count(what), what == 6 ? 1 : 0);
        }
        due("store", x.now(1), 100);
        due("wind", x.now(2), 0);
        due("landed", x.now(3), 0);
        due("fish", x.fish(0), 0);
        for (int ship = 0; ship < 4; ship++) {
            for (int what = 0; what < 7; what++) {
                due("ship " + ship + " " + what, x.ship(ship, what), 0);
            }
        }
        for (int s = 0; s < 4; s++) {
            due("load", x.load(s), MISSING);
        }
        for (int spot = 0; spot < 10; spot++) {
            due("as", x.as(spot, 0), MISSING);
        }
        due("undo", x.undo(), NONE);
        due("tear", x.tear(), 0);
        due("findings", x.status(-1), 15);
        // One object knows nothing of another.
        NavyOfCats y = new NavyOfCats();
        due("findings of another", y.status(-1), 0);
    }

    private static void cat() {
        NavyOfCats x = new NavyOfCats();
        due("kind -1", x.cat(-1), BEYOND);
        due("kind 7", x.cat(7), BEYOND);
        due("kind least", x.cat(LEAST), BEYOND);
        for (int i = 0; i < 8; i++) {
            due("cat", x.cat(i % 7), i);
        }
        due("a 9th", x.cat(0), FULL);
        due("a 9th of no kind", x.cat(7), BEYOND);
        due("cats", x.count(1), 8);
        due("kind", x.of(6, 0), 6);
        due("kind of the 8th", x.of(7, 0), 0);
        due("hunger", x.of(7, 1), 0);
        due("habit", x.of(7, 2), 0);
    }

    private static void of() {
        NavyOfCats x = navy("cat hunger 37 habit -4;tom hunger 37;kitten hunger 37;old hunger 37 habit 5",
            "prize hunger 37 habit 5;blind hunger 37;black hunger 37");
        int[] kinds = {0, 1, 2, 3, 4, 5, 6};
        // Watch 0 is no watch of fish; a kitten sits 2 less there.
        int[] errs = {3, 3, 1, 3, 13, 1, 2};
        for (int cat = 0; cat < 7; cat++) {
            due("kind", x.of(cat, 0), kinds[cat]);
            due("hunger", x.of(cat, 1), 37);
            due("errs", x.of(cat, 3), errs[cat]);
        }
        due("habit", x.of(0, 2), -4);
        x.fish(1);
        due("tom by fish", x.of(1, 3), 5);
        due("cat by fish", x.of(0, 3), 3);
        due("old by fish", x.of(3, 3), 5);
        due("prize by fish", x.of(4, 3), 11);
        due("kitten by fish", x.of(2, 3), 1);
        for (int cat = 0; cat < 7; cat++) {
            x.change(cat, 1, 49);
        }
        due("old of 49", x.of(3, 3), 6);
        x.change(3, 1, 50);
        due("old of 50", x.of(3, 3), 5);
        x.change(4, 1, 50);
        due("prize of 50", x.of(4, 3), 11);
        x.change(4, 2, -15);
        due("prize of 50", x.of(4, 3), 31);
        due("blind of 49", x.of(5, 3), 2);
        x.change(5, 1, 99);
        due("blind of 99", x.of(5, 3), 4);
        due("no such cat", x.of(7, 0), BEYOND);
        due("no such cat", x.of(-1, 0), BEYOND);
        due("no such thing", x.of(0, 4), BEYOND);
        due("no such thing", x.of(0, -1), BEYOND);
        due("no such thing", x.of(0, MOST), BEYOND);
        // t goes round by 16, and 15 is followed by 0: kittens go -2 .. 2 three times and then -2 once.
        NavyOfCats y = navy("kitten;black");
        for (int i = 0; i < 40; i++) {
            due("kitten at " + i, y.of(0, 3), i / 10 + i % 16 % 5 - 2);
            due("black at " + i, y.of(1, 3), i / 10 + i % 16 % 5 - 1);
            y.go(1);
        }
    }

    private static void change() {
        NavyOfCats x = navy("cat;cat");
        due("kind", x.change(1, 0, 6), 0);
        due("kind", x.change(1, 0, 3), 6);
        due("kind 7", x.change(1, 0, 7), BEYOND);
        due("kind -1", x.change(1, 0, -1), BEYOND);
        due("kind", x.of(1, 0), 3);
        due("hunger", x.change(1, 1, 99), 0);
        due("hunger 100", x.change(1, 1, 100), BEYOND);
        due("hunger -1", x.change(1, 1, -1), BEYOND);
        due("hunger", x.change(1, 1, 0), 99);
        due("habit", x.change(1, 2, -15), 0);
        due("habit", x.change(1, 2, 15), -15);
        due("habit 16", x.change(1, 2, 16), BEYOND);
        due("habit -16", x.change(1, 2, -16), BEYOND);
        due("habit", x.of(1, 2), 15);
        due("errs", x.change(1, 3, 0), BEYOND);
        due("what -1", x.change(1, -1, 0), BEYOND);
        due("no cat", x.change(2, 1, 0), BEYOND);
        due("no cat", x.change(-1, 1, 0), BEYOND);
        due("the other's kind", x.of(0, 0), 0);
        due("the other's hunger", x.of(0, 1), 0);
        due("the other's habit", x.of(0, 2), 0);
    }

    private static void ship() {
        NavyOfCats x = navy("old hunger 50 habit -7;cat hunger 30;ship 1 at 55 order 3 aboard 3;wind 4");
        due("at", x.ship(1, 0), 55);
        due("order", x.ship(1, 1), 3);
        due("aboard", x.ship(1, 2), 3);
        due("reads -4 by 2", x.ship(1, 3), -2);
        due("course", x.ship(1, 4), 1);
        due("heads north", x.ship(1, 5), 45);
        due("landed", x.ship(1, 6), 0);
        x.change(1, 1, 20);
        due("reads -5 by 2, cut", x.ship(1, 3), -2);
        x.steer(1, 1, 0);
        due("course round", x.ship(1, 4), 30);
        due("heads north", x.ship(1, 5), 45);
        x.steer(1, 1, 31);
        due("course", x.ship(1, 4), 29);
        due("heads north-west", x.ship(1, 5), 44);
        x.steer(1, 2, 0);
        int[] beside = {45, 46, 56, 66, 65, 64, 54, 44};
        for (int order = 0; order < 32; order++) {
            x.steer(1, 1, order);
            int heading = (order + 2) / 4 % 8;
            due("course by order", x.ship(1, 4), order);
            due("wind against " + order, x.ship(1, 5), heading == 4 ? 55 : beside[heading]);
        }
        x.steer(1, 1, 16);
        x.wind(3);
        due("wind from aside", x.ship(1, 5), 65);
        x.island(55, 1);
        due("landed", x.ship(1, 6), 1);
        due("stays", x.ship(1, 5), 55);
        ends(x);
        // A kitten sits by -2 in watch 0 and by -1 in watch 1; a cat of 59 by 5 and then by 6.
        NavyOfCats y = navy("kitten;cat hunger 59;ship 0 at 55 order 1 aboard 1;ship 3 at 55 aboard 2");
        due("reads now", y.ship(0, 3), -2);
        due("course now", y.ship(0, 4), 31);
        due("north-east by 5", y.ship(3, 5), 46);
        y.go(1);
        due("reads then", y.ship(0, 3), -1);
        due("course then", y.ship(0, 4), 0);
        due("east by 6", y.ship(3, 5), 47);
        due("no ship", x.ship(4, 0), BEYOND);
        due("no ship", x.ship(-1, 0), BEYOND);
        due("what 7", x.ship(0, 7), BEYOND);
        due("what -1", x.ship(0, -1), BEYOND);
    }

    /** At the sea's ends a ship stays, and never comes out at the other side. */
    private static void ends(NavyOfCats x) {
        int[][] cellOrderNext = {{5, 0, 5}, {5, 4, 5}, {5, 28, 5}, {5, 8, 6}, {59, 8, 59}, {59, 4, 59}, {59, 12, 59},
            {59, 16, 69}, {95, 16, 95}, {95, 20, 95}, {95, 24, 94}, {50, 24, 50}, {50, 28, 50}, {50, 20, 50}, {50, 0, 40},
            {0, 12, 0}, {99, 28, 88}, {90, 4, 81}, {9, 20, 18}};
        for (int[] row : cellOrderNext) {
            x.steer(2, 0, row[0]);
            x.steer(2, 1, row[1]);
            due("from " + row[0] + " by " + row[1], x.ship(2, 5), row[2]);
            x.wind(1);
            if (row[1] == 12) {
                due("from " + row[0] + " south-east", x.ship(2, 5), row[0] == 0 ? 11 : row[0]);
            }
            x.wind(3);
        }
    }

    private static void steer() {
        NavyOfCats x = navy("cat;cat;cat");
        due("at", x.steer(3, 0, 99), 0);
        due("at", x.steer(3, 0, 7), 99);
        due("at 100", x.steer(3, 0, 100), BEYOND);
        due("at -1", x.steer(3, 0, -1), BEYOND);
        due("at", x.ship(3, 0), 7);
        due("order", x.steer(3, 1, 31), 0);
        due("order", x.steer(3, 1, 0), 31);
        due("order 32", x.steer(3, 1, 32), BEYOND);
        due("order -1", x.steer(3, 1, -1), BEYOND);
        due("aboard", x.steer(3, 2, 7), 0);
        due("aboard", x.steer(3, 2, 5), 7);
        due("aboard 8", x.steer(3, 2, 8), BEYOND);
        due("aboard -1", x.steer(3, 2, -1), BEYOND);
        due("aboard least", x.steer(3, 2, LEAST), BEYOND);
        due("aboard of two ships", x.steer(0, 2, 5), 0);
        due("aboard", x.ship(3, 2), 5);
        due("reads", x.steer(3, 3, 0), BEYOND);
        due("what -1", x.steer(3, -1, 0), BEYOND);
        due("no ship", x.steer(4, 0, 0), BEYOND);
        due("no ship", x.steer(-1, 0, 0), BEYOND);
        due("others", x.ship(2, 0), 0);
    }

    private static void island() {
        NavyOfCats x = new NavyOfCats();
        due("new", x.island(0, 1), 1);
        due("not new", x.island(0, 1), 0);
        due("other", x.island(99, 1), 1);
        due("islands", x.count(2), 2);
        due("landed", x.count(3), 4);
        due("none now", x.island(0, 0), 1);
        due("not new", x.island(0, 0), 0);
        due("islands", x.count(2), 1);
        due("landed", x.count(3), 0);
        due("cell 100", x.island(100, 1), BEYOND);
        due("cell -1", x.island(-1, 1), BEYOND);
        due("is 2", x.island(5, 2), BEYOND);
        due("is -1", x.island(5, -1), BEYOND);
        due("islands", x.now(5), 1);
    }

    private static void wind() {
        NavyOfCats x = new NavyOfCats();
        due("wind 7", x.wind(7), 0);
        due("wind 8", x.wind(8), BEYOND);
        due("wind -1", x.wind(-1), BEYOND);
        due("wind 2", x.wind(2), 7);
        due("wind", x.now(2), 2);
    }

    private static void fish() {
        NavyOfCats x = navy("tom");
        due("fish", x.fish(65535), 0);
        due("errs", x.of(0, 3), 2);
        due("fish", x.fish(65534), 65535);
        due("errs", x.of(0, 3), 0);
        due("too many", x.fish(65536), BEYOND);
        due("below", x.fish(-1), BEYOND);
        due("fish", x.fish(1 << 15), 65534);
        due("watch 15", x.sits(0, 15), 1 + 2);
        due("watch 14", x.sits(0, 14), 1);
        due("watch 31", x.sits(0, 31), 3 + 2);
        due("watch 32", x.sits(0, 32), 3);
    }

    private static void store() {
        NavyOfCats x = new NavyOfCats();
        due("store", x.store(9999), 100);
        due("store 10000", x.store(10000), BEYOND);
        due("store -1", x.store(-1), BEYOND);
        due("store 0", x.store(0), 9999);
        due("store", x.now(1), 0);
    }

    private static void watches() {
        promise(11); go();
        promise(12); feeds();
        promise(13); now();
    }

    private static void go() {
        NavyOfCats x = navy("cat hunger 98;kitten;ship 0 at 55 order 8;ship 1 at 55 order 16;island 57;island 0");
        due("one", x.go(1), 2);
        due("at", x.ship(0, 0), 56);
        due("at", x.ship(1, 0), 65);
        due("landed stays", x.ship(2, 0), 0);
        due("hunger", x.of(0, 1), 99);
        due("hunger", x.of(1, 1), 1);
        due("watch", x.now(0), 1);
        due("one", x.go(1), 3);
        due("hunger stays", x.of(0, 1), 99);
        due("sixty", x.go(60), 3);
        due("watch", x.now(0), 62);
        due("hunger", x.of(1, 1), 62);
        due("at", x.ship(0, 0), 57);
        due("at", x.ship(1, 0), 95);
        due("none", x.go(0), BEYOND);
        due("61", x.go(61), BEYOND);
        due("-1", x.go(-1), BEYOND);
        due("least", x.go(LEAST), BEYOND);
        due("watch", x.now(0), 62);
        // Ships go by the hunger that was ahead of the watch.
        NavyOfCats y = navy("cat hunger 59;ship 0 at 44 order 28 aboard 1;wind 4");
        y.go(1);
        due("by 5", y.ship(0, 0), 45 - 11);
        y.change(0, 1, 60);
        y.steer(0, 1, 27);
        y.go(1);
        due("by 6", y.ship(0, 0), 34 - 10);
        NavyOfCats four = navy("ship 0 at 55 order 8;ship 1 at 55 order 12;ship 2 at 55 order 16;ship 3 at 55 order 20");
        four.go(2);
        int[] cells = {57, 77, 75, 73};
        for (int ship = 0; ship < 4; ship++) {
            due("each of the four", four.ship(ship, 0), cells[ship]);
        }
    }

    private static void feeds() {
        NavyOfCats x = navy("cat hunger 5;cat hunger 6;cat hunger 7;store 3");
        due("a cat that isn't", x.feeds(8), BEYOND);
        due("below", x.feeds(-1), BEYOND);
        due("two", x.feeds(5), 1);
        due("fed", x.of(0, 1), 0);
        due("not fed", x.of(1, 1), 6);
        due("fed", x.of(2, 1), 0);
        due("too dear", x.feeds(3), STATE);
        due("a cat that isn't, first", x.feeds(15), BEYOND);
        due("not fed", x.of(1, 1), 6);
        due("store", x.now(1), 1);
        due("nobody", x.feeds(0), 1);
        due("also a cat without hunger", x.feeds(1), 0);
        due("nothing left", x.feeds(2), STATE);
        due("nobody", x.feeds(0), 0);
    }

    private static void now() {
        NavyOfCats x = navy("cat hunger 5;cat hunger 60;cat hunger 7;store 3;wind 6;ship 1 at 9;ship 3 at 8;island 9;island 8;island 7");
        x.go(2);
        int[] told = {2, 3, 6, 10, 62, 3};
        for (int what = 0; what < 6; what++) {
            due("what " + what, x.now(what), told[what]);
        }
        due("what 6", x.now(6), BEYOND);
        due("what -1", x.now(-1), BEYOND);
        due("no cats", new NavyOfCats().now(4), 0);
        due("the first is the hungriest", navy("cat hunger 60;cat hunger 5").now(4), 60);
    }

    private static void whatWillBe() {
        promise(14); ahead();
        promise(15); lands();
        promise(16); meets();
        promise(17); still();
        promise(18); sits();
    }

    private static void ahead() {
        // A cat of hunger 57: reads 5, 5, 5, then 6: north-east thrice, then east.
        NavyOfCats x = navy("cat hunger 57;ship 2 at 90 aboard 1;wind 5");
        int[] cells = {90, 81, 72, 63, 64, 65, 66, 67, 68, 69, 69};
        for (int n = 0; n < cells.length; n++) {
            due("behind " + n, x.ahead(2, n), cells[n]);
        }
        due("behind 200", x.ahead(2, 200), 69);
        due("201", x.ahead(2, 201), BEYOND);
        due("-1", x.ahead(2, -1), BEYOND);
        due("no ship", x.ahead(4, 0), BEYOND);
        due("no ship", x.ahead(-1, 0), BEYOND);
        due("nothing changes", x.ship(2, 0), 90);
        due("nothing changes", x.of(0, 1), 57);
        due("nothing changes", x.now(0), 0);
        x.island(64, 1);
        due("landed", x.ahead(2, 200), 64);
        x.go(3);
        due("from now on", x.ahead(2, 1), 64);
        due("behind 199", lateByFish(128).ahead(0, 199), 6);
        due("behind 200", lateByFish(128).ahead(0, 200), 7);
    }

    private static void lands() {
        NavyOfCats x = navy("ship 0 at 50 order 8;island 59;ship 1 at 50 order 16");
        due("nine", x.lands(0), 9);
        due("none", x.lands(1), NONE);
        x.island(50, 1);
        due("at once", x.lands(0), 0);
        due("no ship", x.lands(4), BEYOND);
        due("no ship", x.lands(-1), BEYOND);
        NavyOfCats y = lateByFish(128);
        due("behind watch 199", y.lands(0), 200);
        y.island(7, 0);
        y.island(8, 1);
        due("it would be 216", y.lands(0), NONE);
        due("behind watch 200", lateByFish(256).lands(0), NONE);
        y.go(60);
        due("156", y.lands(0), 156);
    }

    private static void meets() {
        NavyOfCats x = navy("ship 0 at 50 order 8;ship 1 at 54 order 24;ship 2 at 53 order 24;ship 3 at 55 order 0;wind 4");
        due("two", x.meets(0, 1), 2);
        due("two", x.meets(1, 0), 2);
        due("pass by", x.meets(0, 2), NONE);
        due("none", x.meets(0, 3), NONE);
        x.steer(3, 0, 54);
        due("at once", x.meets(1, 3), 0);
        due("in the end", x.meets(1, 2), 4);
        due("the same", x.meets(1, 1), BEYOND);
        due("no ship", x.meets(1, 4), BEYOND);
        due("no ship", x.meets(4, 1), BEYOND);
        due("no ship", x.meets(-1, 0), BEYOND);
        due("no ship", x.meets(0, -1), BEYOND);
        due("no ships, the same", x.meets(4, 4), BEYOND);
        due("behind watch 199", lateByFish(128).meets(1, 0), 200);
        due("behind watch 200", lateByFish(256).meets(1, 0), NONE);
    }

    private static void still() {
        NavyOfCats x = navy("ship 0 at 50 order 8;ship 1 at 54 order 24;wind 0");
        due("nine", x.still(), 9);
        x.steer(0, 0, 58);
        due("four", x.still(), 4);
        x.steer(1, 0, 50);
        x.steer(0, 0, 59);
        due("at once", x.still(), 0);
        due("nothing changes", x.ship(0, 0), 59);
        // One watch without a move is enough, also where ships go on later.
        NavyOfCats y = navy("cat hunger 59;ship 0 at 5 order 0 aboard 1");
        due("at once", y.still(), 0);
        y.go(1);
        due("then it goes east", y.still(), 4);
        // One ship moves in each of the watches 0 to 59, and in watch 60 the last one still, if it has a cell more to go.
        due("sixty", takingTurns(3).still(), 60);
        NavyOfCats z = takingTurns(2);
        due("none", z.still(), NONE);
        due("counted", z.status(3), 1);
        z.go(1);
        due("sixty", z.still(), 60);
    }

    private static void sits() {
        NavyOfCats x = navy("old hunger 8 habit -3;kitten hunger 95;fish 4");
        due("now", x.sits(0, 0), 0);
        due("fish", x.sits(0, 2), 1 + 2);
        due("49", x.sits(0, 41), 4);
        due("50", x.sits(0, 42), -3);
        due("full", x.sits(1, 4), 9 + 2);
        due("at most 99", x.sits(1, 200), 9 + 8 % 5 - 2);
        due("nothing changes", x.of(1, 1), 95);
        due("201", x.sits(0, 201), BEYOND);
        due("-1", x.sits(0, -1), BEYOND);
        due("no cat", x.sits(2, 0), BEYOND);
        due("no cat", x.sits(-1, 0), BEYOND);
        x.go(3);
        due("from now on", x.sits(1, 1), 9 + 2);
    }

    private static void orders() {
        promise(19); order();
        promise(20); soonest();
        promise(21); ordersAt();
        promise(22); surest();
        promise(23); winds();
        promise(24); windFor();
    }

    private static NavyOfCats islandsAround() {
        return navy("ship 0 at 55 order 13;island 58;island 33;island 57;wind 0");
    }

    private static void order() {
        NavyOfCats x = islandsAround();
        // East two cells: 6 to 9; north-west two cells: 26 to 29.
        due("east", x.order(0), 6);
        x.island(57, 0);
        due("north-west", x.order(0), 26);
        x.wind(7);
        due("against the wind", x.order(0), 6);
        due("order stays", x.ship(0, 1), 13);
        x.island(55, 1);
        due("at once", x.order(0), 0);
        due("none", navy("ship 0 at 55").order(0), NONE);
        due("no ship", x.order(4), BEYOND);
        due("no ship", x.order(-1), BEYOND);
        NavyOfCats y = navy("cat hunger 30;ship 1 at 55 aboard 1;island 56");
        due("with an error", y.order(1), 3);
        due("behind 60", justInTime(2048).order(0), 27);
        due("behind 61", justInTime(4096).order(0), NONE);
        due("the last order", byTheLast().order(0), 31);
    }

    /**
     * A cat of 29 reads 2, and 3 from watch 1 on: by 28 to 31 a ship goes north first, to 45, and then by 31 alone
     * (course 2) north-east, to 36. All others turn too late, at the sea's ends; so it is by every wind but those
     * from north and north-east, which keep it from either cell.
     */
    private static NavyOfCats byTheLast() {
        return navy("cat hunger 29;ship 0 at 55 aboard 1;island 36;wind 4");
    }

    private static void soonest() {
        NavyOfCats x = islandsAround();
        due("two", x.soonest(0), 2);
        x.island(56, 1);
        due("one", x.soonest(0), 1);
        x.island(55, 1);
        due("at once", x.soonest(0), 0);
        due("none", navy("ship 0 at 55").soonest(0), NONE);
        due("no ship", x.soonest(4), BEYOND);
        due("no ship", x.soonest(-1), BEYOND);
        due("behind 60", justInTime(2048).soonest(0), 60);
        due("behind 61", justInTime(4096).soonest(0), NONE);
        due("by the last order", byTheLast().soonest(0), 2);
    }

    private static void ordersAt() {
        NavyOfCats x = islandsAround();
        due("east", x.orders(0, 57), 0b1111L << 6);
        due("behind another", x.orders(0, 58), 0);
        due("north-west", x.orders(0, 33), 0b1111L << 26);
        due("no island", x.orders(0, 32), STATE);
        due("no cell", x.orders(0, 100), BEYOND);
        due("no cell", x.orders(0, -1), BEYOND);
        due("no ship", x.orders(4, 57), BEYOND);
        due("no ship", x.orders(-1, 57), BEYOND);
        due("order stays", x.ship(0, 1), 13);
        x.island(55, 1);
        due("all", x.orders(0, 55), 0xFFFFFFFFL);
        due("none", x.orders(0, 57), 0);
        due("findings", x.status(-1), 5);
        NavyOfCats y = navy("ship 0 at 55;island 45;wind 4");
        due("north", y.orders(0, 45), 1L << 31 | 1L << 30 | 3);
        due("behind 60", justInTime(2048).orders(0, 5), 3L << 27);
        due("behind 61", justInTime(4096).orders(0, 5), 0);
        due("31 alone", byTheLast().orders(0, 36), 0x80000000L);
        // Fish in watch 0: by 23 and 24 a starved tom's ship goes north-east once and then north, to 6; by none else.
        due("the first watch", navy("tom hunger 99;fish 1;ship 0 at 55 aboard 1;island 6;wind 4").orders(0, 6), 3L << 23);
    }

    private static void surest() {
        NavyOfCats x = islandsAround();
        // East by all winds but the one from the east; nothing is by eight.
        due("east", x.surest(0), 6);
        due("no islands", new NavyOfCats().surest(0), 0);
        x.island(55, 1);
        due("at once", x.surest(0), 0);
        due("no ship", x.surest(4), BEYOND);
        due("no ship", x.surest(-1), BEYOND);
        due("wind stays", x.now(2), 0);
        due("by 1", turns().surest(0), 1);
        due("the last order", byTheLast().surest(0), 31);
        due("behind 60", justInTime(2048).surest(0), 27);
        due("behind 61", justInTime(4096).surest(0), 0);
    }

    /**
     * By 0 a ship goes east to 2 (by 7 winds); by 1 also, but with a wind from the east it waits,
     * until its cat has 90, and goes south-east to 22.
     */
    private static NavyOfCats turns() {
        return navy("cat hunger 57;ship 0 order 9 aboard 1;island 2;island 22");
    }

    private static void winds() {
        NavyOfCats x = islandsAround();
        due("seven", x.winds(0), 7);
        due("none", new NavyOfCats().winds(0), 0);
        x.island(55, 1);
        due("all", x.winds(0), 8);
        due("no ship", x.winds(4), BEYOND);
        due("no ship", x.winds(-1), BEYOND);
        due("wind stays", x.now(2), 0);
        due("by 1", turns().winds(0), 8);
        due("by the last order", byTheLast().winds(0), 6);
        due("behind 60, but not from north-east or east", justInTime(2048).winds(0), 6);
        due("behind 61", justInTime(4096).winds(0), 0);
    }

    private static void windFor() {
        // Order 8 leads east to the island, but with a wind from the east.
        NavyOfCats x = navy("ship 0 at 55 order 8;island 57;wind 2");
        due("north", x.windFor(0), 0);
        x.steer(0, 1, 0);
        due("none", x.windFor(0), NONE);
        x.island(35, 1);
        due("the first that isn't from north", x.windFor(0), 1);
        due("wind stays", x.now(2), 2);
        due("no ship", x.windFor(4), BEYOND);
        due("no ship", x.windFor(-1), BEYOND);
        // A cat of 57 goes north-east thrice and then east; kept from the north-east it waits, and then goes along its row.
        NavyOfCats y = navy("cat hunger 57;ship 0 at 90 aboard 1;island 92;island 69");
        due("north-east: 92 behind 5, else 69 behind 9", y.windFor(0), 1);
        y.island(81, 1);
        due("81 at once", y.windFor(0), 0);
        due("behind 60", justInTime(2048).windFor(0), 0);
        due("behind 61", justInTime(4096).windFor(0), NONE);
    }

    private static void whoIsAboard() {
        promise(25); crew();
        promise(26); mean();
        promise(27); better();
        promise(28); spy();
    }

    private static NavyOfCats fourCats() {
        return navy("old hunger 50 habit -9;cat hunger 40;old hunger 60 habit 3;old hunger 70 habit -5");
    }

    private static void crew() {
        NavyOfCats x = fourCats();
        // They err -9, 4, 3, -5.
        due("3 alone", x.crew(1), 4);
        due("4 and -5: cut to 0", x.crew(2), 10);
        due("-9, 4, 3: cut to 0", x.crew(3), 7);
        due("all", x.crew(4), 15);
        due("not so many", x.crew(5), NONE);
        due("not so many", x.crew(8), NONE);
        due("none", x.crew(0), BEYOND);
        due("nine", x.crew(9), BEYOND);
        due("below", x.crew(-1), BEYOND);
        x.change(0, 2, -3);
        due("the least of two", x.crew(1), 1);
        due("no cats", new NavyOfCats().crew(1), NONE);
        // Now a kitten sits by -2 and a cat of 19 by 1, behind a watch by -1 and by 2.
        NavyOfCats y = navy("kitten;cat hunger 19");
        due("now", y.crew(1), 2);
        y.go(1);
        due("then", y.crew(1), 1);
    }

    private static void mean() {
        NavyOfCats x = fourCats();
        due("one", x.mean(1), 3);
        due("two", x.mean(2), 0);
        due("three", x.mean(3), 0);
        due("four", x.mean(4), -1);
        due("five", x.mean(5), NONE);
        due("none", x.mean(0), BEYOND);
        due("nine", x.mean(9), BEYOND);
        x.change(0, 2, -3);
        due("below 0", x.mean(1), -3);
        NavyOfCats y = navy("kitten;cat hunger 19");
        due("now", y.mean(1), 1);
        y.go(1);
        due("then", y.mean(1), -1);
    }

    private static void better() {
        NavyOfCats x = fourCats();
        x.steer(0, 2, 3);
        // -9 and 4 read -2. Off goes the first: 4, the second: -9; with the third: 0, with the fourth: -3.
        due("the third", x.better(0), 2);
        x.steer(0, 2, 4);
        due("3 alone taken off is 0", x.better(0), 2);
        x.steer(0, 2, 8);
        due("-5 with 4", x.better(0), 1);
        x.steer(0, 2, 0);
        due("none aboard", x.better(0), 2);
        x.change(2, 2, -4);
        due("the least of two", x.better(0), 1);
        due("aboard stays", x.ship(0, 2), 0);
        due("no cats", new NavyOfCats().better(0), NONE);
        due("no ship", x.better(4), BEYOND);
        due("no ship, no cats", new NavyOfCats().better(-1), BEYOND);
        NavyOfCats y = navy("kitten;cat hunger 19");
        due("now", y.better(3), 1);
        y.go(1);
        due("then", y.better(3), 0);
    }

    private static void spy() {
        NavyOfCats x = navy("cat hunger 30;cat;ship 0 at 55 order 0 aboard 1;ship 1 at 55;wind 6");
        // By 3 it goes north-east; as a prize by 13 (south-east, in rows 2 apart a watch); as a blind, kitten or black by 1 or 2.
        due("a prize", x.spy(0, 0, 1), 4);
        due("no watch: the least", x.spy(0, 0, 0), 0);
        due("kind stays", x.of(0, 0), 0);
        due("not aboard", x.spy(0, 1, 1), STATE);
        due("not aboard", x.spy(1, 0, 1), STATE);
        due("no ship", x.spy(4, 0, 1), BEYOND);
        due("no ship", x.spy(-1, 0, 1), BEYOND);
        due("no cat", x.spy(0, 2, 1), BEYOND);
        due("no cat", x.spy(0, -1, 1), BEYOND);
        due("41", x.spy(0, 0, 41), BEYOND);
        due("-1", x.spy(0, 0, -1), BEYOND);
        due("41, not aboard", x.spy(0, 1, 41), BEYOND);
        due("40", x.spy(0, 0, 40), 4);
        // Near the south-east a prize can't go on; a blind by 1 goes north, 9 rows away.
        x.steer(0, 0, 99);
        x.wind(4);
        due("a kitten is the first to go north", x.spy(0, 0, 1), 2);
        spiedFar();
    }

    /**
     * By order 23 a starved cat, tom, kitten or black goes north for three watches (courses 30 to 1), a blind
     * north-west (27); an old one and a prize as the habit is: -15 east and west, 0 west and east, -7 both south.
     */
    private static void spiedFar() {
        int[][] habitWindCellWatchesKind = {
            // Due c + 1; north is 1 and 1 away, north-west 1 and 2, west 0 and 2: a blind. Thrice: 3 and 3, 3 and 6, 0 and 6.
            {-15, 4, 55, 1, 5}, {-15, 4, 28, 1, 5}, {-15, 4, 82, 1, 5}, {-15, 4, 55, 3, 5}, {-15, 4, 83, 3, 5}, {-15, 4, 36, 3, 5},
            // At the west's end north is 1 and 1 away, and blind and prize wait, 0 and 1.
            {-15, 4, 50, 1, 0},
            // At the north's end all wait, 0 and 1, but the prize, 0 and 2.
            {-15, 4, 5, 1, 4},
            // Due c - 1: north is 1 and 1 away, north-west 1 and 0, east 0 and 2.
            {0, 4, 55, 1, 0}, {0, 4, 28, 3, 0},
            // Due 14: north 7 is 1 and 3 away, north-west 6 is 1 and 2, east 19 is 0 and 5.
            {0, 4, 17, 3, 4},
            // Due 30 further south: north is 6 and 0 away, north-west 6 and 3; from 52 it is 30, 5 and 2; from 51 it is 40, 4 and 1.
            {-7, 2, 55, 3, 5}, {-7, 2, 52, 3, 5}, {-7, 2, 51, 3, 0}, {-7, 2, 50, 3, 0}};
        for (int[] row : habitWindCellWatchesKind) {
            NavyOfCats x = navy("old hunger 99;ship 0 at " + row[2] + " order 23 aboard 1;wind " + row[1]);
            x.change(0, 2, row[0]);
            due("habit " + row[0] + " from " + row[2] + " behind " + row[3], x.spy(0, 0, row[3]), row[4]);
            due("kind stays", x.of(0, 0), 3);
        }
    }

    private static void stores() {
        promise(29); uses();
        promise(30); hunger();
    }

    private static void uses() {
        NavyOfCats x = navy("cat hunger 10;cat;store 2");
        due("no watch", x.uses(0, 1), 0);
        due("every watch; a cat without hunger from the second on", x.uses(5, 1), 5 + 4);
        due("at 10, 20 ..; the first at once", x.uses(11, 10), 2 + 1);
        due("ten", x.uses(10, 10), 1);
        due("above", x.uses(1, 11), 0);
        due("then", x.uses(2, 11), 1);
        due("late", x.uses(99, 99), 1);
        due("later", x.uses(100, 99), 1 + 1);
        due("all along", x.uses(200, 99), 2 + 2);
        due("nobody", new NavyOfCats().uses(200, 1), 0);
        due("201", x.uses(201, 1), BEYOND);
        due("-1", x.uses(-1, 1), BEYOND);
        due("h 0", x.uses(1, 0), BEYOND);
        due("h 100", x.uses(1, 100), BEYOND);
        due("nothing changes", x.of(0, 1), 10);
        due("nothing changes", x.now(1), 2);
        x.change(0, 1, 99);
        due("99 at most", x.uses(100, 99), 1 + 1 + 1);
    }

    private static void hunger() {
        NavyOfCats x = navy("cat hunger 10;store 3");
        // Fed at 0, h, 2h .. (h 10 at most), or first at h - 10.
        due("three times in 20: 0, 7, 14", x.hunger(20), 7);
        due("no watch", x.hunger(0), 1);
        due("three in three", x.hunger(3), 1);
        due("three in four", x.hunger(4), 2);
        x.store(0);
        due("never in 20", x.hunger(20), 30);
        due("never in 89", x.hunger(89), 99);
        due("never in 90", x.hunger(90), NONE);
        due("201", x.hunger(201), BEYOND);
        due("-1", x.hunger(-1), BEYOND);
        due("nobody", new NavyOfCats().hunger(200), 1);
    }

    private static void logs() {
        promise(31); kinds();
        promise(32); habits();
        promise(33); begun();
        promise(34); from();
    }

    private static void kinds() {
        NavyOfCats x = navy("black hunger 38;fish 6");
        // As of now: cat 3 3 4, tom 3 5 6, kitten 1 2 4, old as tom, prize 13 11 10, blind 1 1 2, black 2 3 5.
        sheetOf(x, 0, 8, 3, 3, 4);
        due("cat", x.kinds(0, 0), 1);
        sheetOf(x, 0, 16, 3, 5, 6);
        due("tom, old", x.kinds(0, 0), 2 + 8);
        sheetOf(x, 0, 32, 1, 2, 4);
        due("kitten", x.kinds(0, 0), 4);
        sheetOf(x, 0, 8, 13, 11, 10);
        due("prize", x.kinds(0, 0), 16);
        sheetOf(x, 0, 8, 1, 1, 2);
        due("blind", x.kinds(0, 0), 32);
        sheetOf(x, 0, 8, 2, 3, 5);
        due("black", x.kinds(0, 0), 64);
        sheetOf(x, 0, 8, 3);
        due("cat, tom, old", x.kinds(0, 0), 1 + 2 + 8);
        sheetOf(x, 0, 8, 1);
        due("kitten, blind", x.kinds(0, 0), 4 + 32);
        sheetOf(x, 0, 8, -1);
        due("none: -1 is no blank here", x.kinds(0, 0), 0);
        sheetOf(x, 0, 8);
        due("all", x.kinds(0, 0), 127);
        due("kind stays", x.of(0, 0), 6);
        due("no sheet", x.kinds(4, 0), BEYOND);
        due("no sheet", x.kinds(-1, 9), BEYOND);
        due("missing", x.kinds(1, 0), MISSING);
        due("missing, no cat", x.kinds(1, 1), MISSING);
        due("no cat", x.kinds(0, 1), BEYOND);
        due("no cat", x.kinds(0, -1), BEYOND);
        due("findings", x.status(5), 2);
    }

    private static void habits() {
        NavyOfCats x = navy("old hunger 48 habit 3;cat;prize hunger 50");
        sheetOf(x, 0, 8, 4, 4, -15, -15);
        due("one", x.habits(0, 0), 1);
        sheetOf(x, 0, 8, 4, 4, 15, 15);
        due("one", x.habits(0, 0), 1);
        sheetOf(x, 0, 8, 4, 4, 16);
        due("none", x.habits(0, 0), 0);
        sheetOf(x, 0, 8, 4, 4, 5, 6);
        due("none: it doesn't change", x.habits(0, 0), 0);
        sheetOf(x, 0, 8, 4, 4);
        due("any", x.habits(0, 0), 31);
        sheetOf(x, 0, 8, 0, 0);
        due("any, of a cat", x.habits(0, 1), 31);
        sheetOf(x, 0, 8, 31);
        due("of a prize: -15", x.habits(0, 2), 1);
        sheetOf(x, 0, 8, 32);
        due("of a prize: none", x.habits(0, 2), 0);
        sheetOf(x, 0, 8);
        due("all", x.habits(0, 0), 31);
        due("habit stays", x.of(0, 2), 3);
        due("no sheet", x.habits(4, 0), BEYOND);
        due("missing", x.habits(1, 3), MISSING);
        due("no cat", x.habits(0, 3), BEYOND);
        due("no cat", x.habits(0, -1), BEYOND);
    }

    private static NavyOfCats goesSouth() {
        return navy("ship 2 at 5 order 16;island 42;island 43");
    }

    private static void begun() {
        NavyOfCats x = goesSouth();
        sheetOf(x, 0, 8, 4, 5);
        due("eight: two are landed", x.begun(0, 2), 8);
        sheetOf(x, 0, 8, 4, 4);
        due("two", x.begun(0, 2), 2);
        sheetOf(x, 0, 8, -1, 4);
        due("from row 3 all, and the landed ones", x.begun(0, 2), 12);
        sheetOf(x, 0, 8, -1, -1, 9);
        due("rows 7, 8, 9", x.begun(0, 2), 30);
        sheetOf(x, 0, 8, 9, 9, 9, -1);
        due("the south's end", x.begun(0, 2), 10);
        sheetOf(x, 0, 8, 10);
        due("no such row", x.begun(0, 2), 0);
        sheetOf(x, 0, 8, -2);
        due("no such row", x.begun(0, 2), 0);
        sheetOf(x, 0, 8);
        due("any", x.begun(0, 2), 100);
        due("at stays", x.ship(2, 0), 5);
        due("no sheet", x.begun(4, 0), BEYOND);
        due("missing", x.begun(3, 4), MISSING);
        due("no ship", x.begun(0, 4), BEYOND);
        due("no ship", x.begun(0, -1), BEYOND);
        // What it reads goes on from watch to watch: east along the north, once the cat has 60.
        NavyOfCats y = navy("cat hunger 58;ship 0 at 0 aboard 1;wind 4");
        sheetOf(y, 1, 16, 3, 2, 1, 1, 1);
        due("not in the last two columns", y.begun(1, 0), 8);
    }

    private static void from() {
        NavyOfCats x = goesSouth();
        sheetOf(x, 0, 8, 4, 5);
        due("the first", x.from(0, 2), 40);
        sheetOf(x, 0, 8, 4, 4);
        due("a landed one", x.from(0, 2), 42);
        sheetOf(x, 0, 8, -1, 4);
        due("from row 3", x.from(0, 2), 30);
        sheetOf(x, 0, 8, 4, 3);
        due("none", x.from(0, 2), NONE);
        sheetOf(x, 0, 8);
        due("any", x.from(0, 2), 0);
        due("no sheet", x.from(-1, 0), BEYOND);
        due("missing", x.from(3, 4), MISSING);
        due("no ship", x.from(0, 4), BEYOND);
        due("no ship", x.from(0, -1), BEYOND);
        // The only one that isn't landed in row 9 goes north.
        NavyOfCats last = navy("wind 4");
        for (int cell = 90; cell < 99; cell++) {
            last.island(cell, 1);
        }
        sheetOf(last, 0, 8, 9, 8);
        due("the last cell", last.from(0, 0), 99);
        due("alone", last.begun(0, 0), 1);
        // North-east twice by 5, and then east by 6.
        NavyOfCats y = navy("cat hunger 58;ship 0 at 0 aboard 1;wind 4");
        sheetOf(y, 1, 16, 3, 2, 1, 1, 1);
        due("by what it reads", y.from(1, 0), 30);
    }

    private static void storms() {
        promise(35); storm();
        promise(36); odds();
        promise(37); drives();
        promise(38); seed();
    }

    private static void storm() {
        // The first draw: z is 1103527590, z >>> 8 is 4310654, its rest by 8 is 6: west.
        NavyOfCats x = navy("cat;island 99;ship 1 at 99;ship 2 at 99;ship 3 at 99;ship 0 at 55 order 16");
        due("three", x.storms(1), 3);
        due("west, then south", x.ship(0, 0), 64);
        due("one draw, as the others are landed", x.count(6), 1103527590);
        due("watch", x.now(0), 1);
        due("hunger", x.of(0, 1), 1);
        // Each ship that isn't landed draws, in turn; those against the sea's end stay.
        NavyOfCats y = navy("ship 0 at 50;ship 1 at 55;ship 2 at 55;ship 3 at 55;wind 0");
        int z = 1;
        int[] heading = new int[4];
        for (int i = 0; i < 4; i++) {
            z = z * 1103515245 + 12345;
            heading[i] = (z >>> 8) % 8;
        }
        int[] rows = {-1, -1, 0, 1, 1, 1, 0, -1};
        int[] columns = {0, 1, 1, 1, 0, -1, -1, -1};
        due("none", y.storms(1), 0);
        due("west of 50 is nothing", y.ship(0, 0), 50);
        for (int i = 1; i < 4; i++) {
            due("driven", y.ship(i, 0), 55 + 10 * rows[heading[i]] + columns[heading[i]]);
        }
        due("z", y.count(6), z);
        // Driven to an island, it doesn't go on in the same storm; and wind keeps no ship from being driven.
        NavyOfCats w = navy("island 54;ship 0 at 55 order 16;wind 6;island 99;ship 1 at 99;ship 2 at 99;ship 3 at 99");
        due("all", w.storms(1), 4);
        due("at the island", w.ship(0, 0), 54);
        due("no more draws", w.storms(20), 4);
        due("z", w.seed(-5), 1103527590);
        due("watch", w.now(0), 21);
        due("0", w.storms(0), BEYOND);
        due("21", w.storms(21), BEYOND);
        due("-1", w.storms(-1), BEYOND);
        // z >>> 8 of a z below 0 is above 0.
        NavyOfCats v = navy("ship 0 at 55;wind 0;island 99;ship 1 at 99;ship 2 at 99;ship 3 at 99");
        v.seed(-7);
        int drawn = -7 * 1103515245 + 12345;
        v.storms(1);
        int way = (drawn >>> 8) % 8;
        due("driven", v.ship(0, 0), 55 + 10 * rows[way] + columns[way]);
        due("z", v.count(6), drawn);
    }

    private static void odds() {
        NavyOfCats x = navy("ship 1 at 55;ship 2 at 99");
        int[] around = {44, 45, 46, 54, 56, 64, 65, 66};
        int[][] told = {{0, 1}, {1, 8}, {1, 4}, {3, 8}, {1, 2}, {5, 8}, {3, 4}, {7, 8}, {1, 1}};
        for (int n = 0; n <= 8; n++) {
            due("above " + n, x.odds(1, 0), told[n][0]);
            due("below " + n, x.odds(1, 1), told[n][1]);
            if (n < 8) {
                x.island(around[n], 1);
            }
        }
        x.island(98, 1);
        x.island(90, 1);
        due("in a corner", x.odds(2, 0), 1);
        due("in a corner", x.odds(2, 1), 8);
        x.island(99, 1);
        due("landed", x.odds(2, 0), 1);
        due("landed", x.odds(2, 1), 1);
        due("no ship", x.odds(4, 0), BEYOND);
        due("no ship", x.odds(-1, 0), BEYOND);
        due("what 2", x.odds(0, 2), BEYOND);
        due("what -1", x.odds(0, -1), BEYOND);
        due("z stays", x.count(6), 1);
    }

    private static void drives() {
        NavyOfCats x = new NavyOfCats();
        long many = 1;
        for (int n = 0; n <= 20; n++) {
            due("drives", x.drives(n), many);
            many *= 8;
        }
        due("21", x.drives(21), BEYOND);
        due("-1", x.drives(-1), BEYOND);
        due("findings", x.status(0), 2);
    }

    private static void seed() {
        NavyOfCats x = new NavyOfCats();
        due("first", x.seed(BEYOND), 1);
        due("no finding", x.seed(LEAST), BEYOND);
        due("least", x.seed(MOST), LEAST);
        due("most", x.count(6), MOST);
        due("findings", x.status(-1), 0);
    }

    private static void texts() {
        promise(39); feed();
        promise(40); wipe();
        promise(41); text();
        faults();
        faultsOfShips();
        textsChangeNothingWithAFault();
    }

    private static void feed() {
        NavyOfCats x = new NavyOfCats();
        due("n 0", x.feed(97, 0), BEYOND);
        due("n 5", x.feed(97, 5), BEYOND);
        due("n -1", x.feed(97, -1), BEYOND);
        // "wind" as four, three and one, two and two; what stands above the bytes told is left out.
        due("four", x.feed(0x77696e64, 4), 4);
        due("one", x.feed(0x41414135, 1), 5);
        due("text", x.text(), 1);
        due("wind", x.now(2), 5);
        due("three", x.feed(0x7f77696e, 3), 3);
        due("two", x.feed(0x99996434, 2), 5);
        due("text", x.text(), 1);
        due("wind", x.now(2), 4);
        for (int i = 0; i < 29; i++) {
            due("four", x.feed(0, 4), 4 * i + 4);
        }
        due("three", x.feed(0, 3), 119);
        due("full by two", x.feed(0, 2), FULL);
        due("n 5 on a full one", x.feed(0, 5), BEYOND);
        due("bytes", x.count(5), 119);
        due("one", x.feed(0, 1), 120);
        due("full by one", x.feed(0, 1), FULL);
        due("bytes", x.count(5), 120);
    }

    private static void wipe() {
        NavyOfCats x = new NavyOfCats();
        due("empty", x.wipe(), 0);
        feed(x, "wind ");
        due("five", x.wipe(), 5);
        due("empty", x.wipe(), 0);
        due("a text of its own", told(x, "store 5"), 1);
        due("bytes", x.count(5), 0);
    }

    private static void text() {
        NavyOfCats x = new NavyOfCats();
        due("all kinds", told(x, "cat;tom;kitten;old;prize;blind;black"), 7);
        for (int kind = 0; kind < 7; kind++) {
            due("kind", x.of(kind, 0), kind);
        }
        due("tape", x.count(5), 0);
        due("settings", told(x, "wind 7;fish 65535;store 9999;island 0;island 99;island 99"), 6);
        due("wind", x.now(2), 7);
        due("fish", x.fish(0), 65535);
        due("store", x.now(1), 9999);
        due("islands", x.now(5), 2);
        due("a ship", told(x, "ship 3 at 98 order 31 aboard 127"), 1);
        due("at", x.ship(3, 0), 98);
        due("order", x.ship(3, 1), 31);
        due("aboard", x.ship(3, 2), 127);
        due("a ship as it is", told(x, "ship 3"), 1);
        due("only its order", told(x, "ship 3 order 4"), 1);
        due("at", x.ship(3, 0), 98);
        due("order", x.ship(3, 1), 4);
        due("aboard", x.ship(3, 2), 127);
        due("a cat and where it is", told(x, "old hunger 99 habit -15;ship 0 aboard 128"), 2);
        due("hunger", x.of(7, 1), 99);
        due("habit", x.of(7, 2), -15);
        due("aboard", x.ship(0, 2), 128);
        due("item by item", told(x, "wind 1;wind 2;ship 1 at 5;ship 1 at 6"), 4);
        due("wind", x.now(2), 2);
        due("at", x.ship(1, 0), 6);
        blanks();
    }

    private static void blanks() {
        NavyOfCats x = new NavyOfCats();
        due("no blanks", told(x, "cat hunger5habit-3;ship0at7order8aboard1"), 2);
        due("hunger", x.of(0, 1), 5);
        due("habit", x.of(0, 2), -3);
        due("order", x.ship(0, 1), 8);
        due("many blanks", told(x, "  tom   habit  -  4  ;   wind   3  "), 2);
        due("habit", x.of(1, 2), -4);
        due("zeros ahead", told(x, "wind 0000000000000000000000000000005"), 1);
        due("wind", x.now(2), 5);
        due("habit -0", told(x, "tom habit -0"), 1);
        due("habit", x.of(2, 2), 0);
        due("120 bytes", told(x, "store 7" + " ".repeat(113)), 1);
        due("60 items", told(x, "wind 1" + ";wind 2".repeat(16)), 17);
        due("no fault is a finding", x.status(-1), 0);
    }

    /** A text and its fault, each on a navy of its own. */
    private static void fault(String text, int place) {
        NavyOfCats x = new NavyOfCats();
        due("text \"" + text + "\"", told(x, text), -1 - place);
        due("tape", x.count(5), 0);
        due("findings", x.status(-1), 0);
    }

    private static void faults() {
        fault("", 0);
        fault("   ", 3);
        fault(";", 0);
        fault("cat;", 4);
        fault("cat; ", 5);
        fault("cat;;cat", 4);
        fault("cat cat", 4);
        fault("cats", 0);
        fault("Cat", 0);
        fault("ca t", 0);
        fault("cat5", 3);
        fault("cat\t;cat", 3);
        fault("cat;\u00e9", 4);
        fault("cat\u0000", 3);
        fault("cat hunger", 10);
        fault("cat hunger  ", 12);
        fault("cat hunger 100", 11);
        fault("cat hunger -1", 11);
        fault("cat hunger 4294967296", 11);
        fault("cat hunger 5 5", 13);
        fault("cat habit 5 hunger 5", 12);
        fault("cat hunger 5 hunger 5", 13);
        fault("cat habit", 9);
        fault("cat habit 16", 10);
        fault("cat habit -16", 11);
        fault("cat habit --1", 11);
        fault("cat habit -", 11);
        fault("cat habit +1", 10);
        fault("cat -5", 4);
        fault("hunger 5", 0);
        fault("5", 0);
        fault("- 5", 0);
        fault("island", 6);
        fault("island 100", 7);
        fault("island -1", 7);
        fault("island 5 6", 9);
        fault("wind 8", 5);
        fault("wind 99999", 5);
        fault("fish 65536", 5);
        fault("store 10000", 6);
        fault("store 100000", 6);
        fault("store 18446744073709551617", 6);
        fault("store x", 6);
        fault("-".repeat(120), 0);
        fault("cat;" + " ".repeat(116), 120);
        fault("cat;cat;cat;cat;cat;cat;cat;cat;tom;x", 32);
        fault("cat;cat;cat;cat;cat;cat;cat;cat;  tom hunger 100", 34);
    }

    private static void faultsOfShips() {
        fault("ship", 4);
        fault("ship 4", 5);
        fault("ship 0 5", 7);
        fault("ship 0 at", 9);
        fault("ship 0 at 100", 10);
        fault("ship 0 order 32", 13);
        fault("ship 0 order 5 at 5", 15);
        fault("ship 0 aboard 1", 14);
        fault("ship 0 aboard 0 order 5", 16);
        fault("ship 0 at 5 at 5", 12);
        fault("ship 0 at 5;ship 1 aboard 1;cat", 26);
        fault("cat;ship 0 aboard 2", 18);
        fault("cat;ship 0 aboard 1;cat;ship 0 aboard 4", 38);
        fault("aboard 0", 0);
        fault("ship at 5", 5);
    }

    private static void textsChangeNothingWithAFault() {
        NavyOfCats x = navy("cat;cat;cat;cat;cat;cat");
        String told = "cat hunger 5;wind 3;fish 7;store 8;island 9;ship 2 at 9 order 8 aboard 1;";
        due("a fault at the end", told(x, told), -1 - told.length());
        due("cats", x.count(1), 6);
        due("wind", x.now(2), 0);
        due("fish", x.fish(0), 0);
        due("store", x.now(1), 100);
        due("islands", x.now(5), 0);
        due("at", x.ship(2, 0), 0);
        due("order", x.ship(2, 1), 0);
        due("aboard", x.ship(2, 2), 0);
        due("two more fit", told(x, "tom;tom"), 2);
        due("a third doesn't", told(x, "tom"), -1);
        due("but all else does", told(x, "wind 2;ship 0 aboard 255"), 2);
        due("aboard", x.ship(0, 2), 255);
        due("what is aboard", told(x, "ship 0 aboard 256"), -15);
    }

    private static void spotsAndSheets() {
        promise(42); hold();
        promise(43); as();
        promise(44); sheet();
        promise(45); write();
        promise(46); copy();
        promise(47); load();
        promise(48); judge();
    }

    private static void hold() {
        NavyOfCats x = navy("cat;cat");
        due("hold", x.hold(0, 1), 1);
        due("hold", x.hold(9, 0), 1);
        due("as", x.as(0, 0), 1);
        due("as", x.as(9, 0), 0);
        due("spots", x.count(7), 2);
        due("another", x.hold(0, 0), 1);
        due("as", x.as(0, 0), 0);
        due("nothing", x.hold(0, -1), 1);
        due("nothing again", x.hold(0, -1), 1);
        due("as", x.as(0, 0), MISSING);
        due("spots", x.count(7), 1);
        due("no spot", x.hold(10, 0), BEYOND);
        due("no spot", x.hold(-1, 0), BEYOND);
        due("no cat", x.hold(9, 2), BEYOND);
        due("no cat", x.hold(9, -2), BEYOND);
        due("as", x.as(9, 0), 0);
    }

    private static void as() {
        NavyOfCats x = navy("cat;tom;kitten;old;prize;blind;black");
        String[] under = {"0", "01", "02", "013", "0134", "05", "026"};
        for (int cat = 0; cat < 7; cat++) {
            x.hold(cat, cat);
            for (int kind = 0; kind < 7; kind++) {
                boolean is = under[cat].indexOf('0' + kind) >= 0;
                due(cat + " as " + kind, x.as(cat, kind), is ? cat : KIND);
            }
        }
        due("kind 7", x.as(0, 7), BEYOND);
        due("kind -1", x.as(0, -1), BEYOND);
        due("no spot", x.as(10, 0), BEYOND);
        due("no spot", x.as(-1, 0), BEYOND);
        due("nothing", x.as(7, 0), MISSING);
        due("nothing, kind 7", x.as(7, 7), BEYOND);
        x.change(0, 0, 4);
        due("a cat whose kind became another", x.as(0, 3), 0);
        due("findings of kind", x.status(2), 7 * 7 - 17);
    }

    private static void sheet() {
        NavyOfCats x = new NavyOfCats();
        due("forty", x.sheet(3, 32, 40), 40);
        due("none", x.sheet(0, 8, 0), 0);
        due("it's there", x.load(0), 0);
        due("missing", x.sheet(0, 0, 40), 0);
        due("missing", x.load(0), MISSING);
        due("missing again", x.sheet(0, 0, 0), 0);
        due("no sheet", x.sheet(4, 8, 1), BEYOND);
        due("no sheet", x.sheet(-1, 8, -1), BEYOND);
        due("bits", x.sheet(0, 7, 1), BEYOND);
        due("bits", x.sheet(0, 64, -1), BEYOND);
        due("bits", x.sheet(0, -8, 1), BEYOND);
        due("size", x.sheet(0, 8, -1), SIZE);
        due("size", x.sheet(0, 0, -1), SIZE);
        due("size", x.sheet(0, 8, LEAST), SIZE);
        due("41", x.sheet(0, 8, 41), BEYOND);
        due("41, missing", x.sheet(3, 0, 41), BEYOND);
        due("still there", x.write(3, 39, 1), 1);
        due("anew", x.sheet(3, 32, 40), 40);
        due("all 0", x.judge(3), 0);
        due("shorter", x.sheet(3, 16, 2), 2);
        due("no third", x.write(3, 2, 0), BEYOND);
        due("findings of size", x.status(6), 3);
    }

    private static void write() {
        NavyOfCats x = navy("cat;cat;ship 0 at 44;island 44");
        x.sheet(0, 8, 2);
        due("300 of 8 bits is 44", x.write(0, 0, 300), 1);
        x.write(0, 1, 44 - 256);
        due("judge", x.judge(0), 0);
        x.sheet(0, 16, 1);
        x.write(0, 0, 65536 + 44);
        due("judge", x.judge(0), 0);
        x.write(0, 0, 300);
        due("judge", x.judge(0), 1);
        x.sheet(0, 32, 1);
        x.write(0, 0, 65536 + 44);
        due("judge", x.judge(0), 1);
        x.sheet(0, 8, 1);
        x.write(0, 0, 255);
        due("255 of 8 bits is -1: any row", x.begun(0, 0), 100);
        x.sheet(0, 16, 1);
        x.write(0, 0, 255);
        due("not so of 16", x.begun(0, 0), 0);
        x.write(0, 0, 65535);
        due("65535 of 16 bits", x.begun(0, 0), 100);
        x.sheet(0, 32, 1);
        x.write(0, 0, 65535);
        due("not so of 32", x.begun(0, 0), 0);
        due("no sheet", x.write(4, 0, 0), BEYOND);
        due("no sheet", x.write(-1, 0, 0), BEYOND);
        due("missing", x.write(1, 50, 0), MISSING);
        due("no number", x.write(0, 1, 0), BEYOND);
        due("no number", x.write(0, -1, 0), BEYOND);
        due("no number", x.write(0, MOST, 0), BEYOND);
    }

    /** How many cats are fed by each number of a sheet: their hungers, as load() leaves them. */
    private static void numbers(NavyOfCats x, int s, int... numbers) {
        due("load", x.load(s), Math.min(8, numbers.length));
        for (int i = 0; i < numbers.length && i < 8; i++) {
            due("number " + i, x.of(i, 1), numbers[i]);
        }
    }

    private static void copy() {
        NavyOfCats x = navy("cat;cat;cat;cat;cat;cat;cat;cat");
        sheetOf(x, 0, 8, 1, 2, 3, 4, 5);
        sheetOf(x, 1, 8, 11, 12, 13);
        due("copy", x.copy(0, 3, 1, 1, 2), 2);
        numbers(x, 1, 11, 4, 5);
        numbers(x, 0, 1, 2, 3, 4, 5);
        due("forward within one", x.copy(0, 0, 0, 1, 4), 4);
        numbers(x, 0, 1, 1, 2, 3, 4);
        due("backward within one", x.copy(0, 1, 0, 0, 4), 4);
        numbers(x, 0, 1, 2, 3, 4, 4);
        due("nothing", x.copy(0, 5, 1, 3, 0), 0);
        due("too many to take", x.copy(0, 4, 1, 0, 2), BEYOND);
        due("too many to put", x.copy(0, 0, 1, 2, 2), BEYOND);
        due("from below", x.copy(0, -1, 1, 0, 1), BEYOND);
        due("to below", x.copy(0, 0, 1, -1, 1), BEYOND);
        due("n below", x.copy(0, 0, 1, 0, -1), BEYOND);
        due("n most", x.copy(0, 1, 1, 1, MOST), BEYOND);
        due("from most", x.copy(0, MOST, 1, 1, 1), BEYOND);
        due("behind the end", x.copy(0, 6, 1, 0, 0), BEYOND);
        numbers(x, 1, 11, 4, 5);
        x.sheet(2, 16, 5);
        due("bits", x.copy(0, 0, 2, 0, 1), KIND);
        due("bits, too many", x.copy(0, 0, 2, 0, 99), KIND);
        due("missing", x.copy(0, 0, 3, 0, 1), MISSING);
        due("missing", x.copy(3, -1, 2, 0, 1), MISSING);
        due("no sheet", x.copy(4, 0, 3, 0, 1), BEYOND);
        due("no sheet", x.copy(3, 0, 4, 0, 1), BEYOND);
        due("no sheet", x.copy(-1, 0, 0, 0, 1), BEYOND);
        due("no sheet", x.copy(0, 0, -1, 0, 1), BEYOND);
    }

    private static void load() {
        NavyOfCats x = navy("cat hunger 50;cat hunger 51;cat hunger 52");
        sheetOf(x, 0, 16, 0, 99, 100, 7);
        due("two", x.load(0), 2);
        due("hunger", x.of(0, 1), 0);
        due("hunger", x.of(1, 1), 99);
        due("hunger", x.of(2, 1), 52);
        sheetOf(x, 0, 8, 5, -1, 6);
        due("one", x.load(0), 1);
        due("hunger", x.of(0, 1), 5);
        due("hunger", x.of(2, 1), 52);
        sheetOf(x, 0, 8, 1, 2, 3, 4);
        due("three", x.load(0), 3);
        due("hunger", x.of(2, 1), 3);
        sheetOf(x, 0, 8, 9, 8);
        due("two", x.load(0), 2);
        due("hunger", x.of(2, 1), 3);
        sheetOf(x, 0, 8);
        due("none", x.load(0), 0);
        due("missing", x.load(1), MISSING);
        due("no sheet", x.load(4), BEYOND);
        due("no sheet", x.load(-1), BEYOND);
    }

    private static void judge() {
        NavyOfCats x = navy("cat hunger 57;ship 0 at 90 aboard 1;wind 5;ship 1 at 5");
        sheetOf(x, 0, 8, 90, 81, 72, 63, 64);
        due("so", x.judge(0), 0);
        sheetOf(x, 0, 8, 90, 81, 72, 63, 54);
        due("the fifth isn't", x.judge(0), 5);
        sheetOf(x, 0, 8, 91, 81, 72, 63, 54);
        due("the first isn't", x.judge(0), 1);
        sheetOf(x, 0, 8, 90, -1);
        due("-1 is no blank here", x.judge(0), 2);
        sheetOf(x, 0, 8);
        due("nothing told", x.judge(0), 0);
        due("nothing changes", x.ship(0, 0), 90);
        due("missing", x.judge(1), MISSING);
        due("no sheet", x.judge(4), BEYOND);
        due("no sheet", x.judge(-1), BEYOND);
    }

    private static void images() {
        promise(49); image();
        imageOfAFullNavy();
        promise(50); undo();
        promise(51); tear();
        promise(52); count();
        promise(53); status();
    }

    private static void image() {
        NavyOfCats x = navy("tom hunger 5 habit 6;wind 3;fish 1;store 7;island 20;ship 1 at 44 order 9 aboard 1");
        x.hold(4, 0);
        x.seed(77);
        due("image", x.image(), 1);
        x.change(0, 0, 2);
        x.change(0, 2, -1);
        x.cat(3);
        x.steer(1, 1, 3);
        x.steer(1, 2, 3);
        x.island(20, 0);
        x.island(21, 1);
        x.wind(1);
        x.fish(9);
        x.hold(4, 1);
        x.hold(5, 1);
        x.storms(3);
        x.feeds(3);
        feed(x, "wind");
        sheetOf(x, 2, 8, 44);
        due("undo", x.undo(), 0);
        due("kind", x.of(0, 0), 1);
        due("hunger", x.of(0, 1), 5);
        due("habit", x.of(0, 2), 6);
        due("cats", x.count(1), 1);
        due("at", x.ship(1, 0), 44);
        due("others", x.ship(2, 0), 0);
        due("order", x.ship(1, 1), 9);
        due("aboard", x.ship(1, 2), 1);
        due("islands", x.count(2), 1);
        due("island", x.island(20, 0), 1);
        due("wind", x.wind(0), 3);
        due("fish", x.fish(0), 1);
        due("store", x.now(1), 7);
        due("watch", x.now(0), 0);
        due("spot", x.as(4, 1), 0);
        due("spots", x.count(7), 1);
        due("z", x.count(6), 77);
        due("the tape stays", x.count(5), 4);
        due("sheets stay", x.load(2), 1);
        due("a new cat", x.cat(0), 1);
        due("is as at first", x.of(1, 1), 0);
    }

    /** The last of everything there is, and the first, is kept too. */
    private static void imageOfAFullNavy() {
        NavyOfCats x = withCats(8);
        told(x, "island 0;island 99;ship 3 at 98 order 30 aboard 129;ship 0 at 97 order 29 aboard 128");
        int[] last = {6, 77, -9};
        int[] shipsLast = {98, 30, 129};
        int[] shipsFirst = {97, 29, 128};
        for (int what = 0; what < 3; what++) {
            x.change(7, what, last[what]);
            x.change(0, what, last[what] + (what == 2 ? 1 : -1));
        }
        x.hold(9, 7);
        x.hold(0, 6);
        x.image();
        for (int what = 0; what < 3; what++) {
            x.change(7, what, 0);
            x.change(0, what, 0);
            x.steer(3, what, 1);
            x.steer(0, what, 1);
        }
        x.hold(9, -1);
        x.hold(0, -1);
        x.island(0, 0);
        x.island(99, 0);
        x.undo();
        for (int what = 0; what < 3; what++) {
            due("the 8th cat", x.of(7, what), last[what]);
            due("the first", x.of(0, what), last[what] + (what == 2 ? 1 : -1));
            due("ship 3", x.ship(3, what), shipsLast[what]);
            due("ship 0", x.ship(0, what), shipsFirst[what]);
        }
        due("spot 9", x.as(9, 6), 7);
        due("spot 0", x.as(0, 0), 6);
        due("island 0", x.island(0, 1), 0);
        due("island 99", x.island(99, 1), 0);
    }

    private static void undo() {
        NavyOfCats x = new NavyOfCats();
        due("none", x.undo(), NONE);
        x.image();
        x.go(5);
        x.image();
        x.go(7);
        due("the latest", x.undo(), 5);
        due("watch", x.now(0), 5);
        x.go(2);
        due("it stays", x.undo(), 5);
        x.cat(9);
        x.undo();
        due("no finding is taken back", x.status(-1), 2);
        // What goes on behind an undo doesn't reach the image.
        x.cat(0);
        x.change(0, 1, 50);
        x.island(3, 1);
        x.hold(3, 0);
        due("undo", x.undo(), 5);
        due("cats", x.count(1), 0);
        due("islands", x.count(2), 0);
        due("spots", x.count(7), 0);
    }

    private static void tear() {
        NavyOfCats x = new NavyOfCats();
        due("nothing", x.tear(), 0);
        x.image();
        x.image();
        due("something", x.tear(), 1);
        due("nothing", x.tear(), 0);
        x.go(3);
        due("nothing", x.undo(), NONE);
        due("watch", x.now(0), 3);
        x.image();
        due("again", x.undo(), 3);
    }

    private static void count() {
        NavyOfCats x = navy("cat hunger 5;cat hunger 60;cat hunger 7;ship 1 at 9;ship 3 at 8;island 9;island 8;island 7;island 77");
        x.go(2);
        x.hold(0, 0);
        x.hold(9, 0);
        x.seed(BEYOND);
        feed(x, "ship ");
        int[] told = {2, 3, 4, 2, 78, 5, BEYOND, 2};
        for (int what = 0; what < 8; what++) {
            due("what " + what, x.count(what), told[what]);
        }
        due("z is no finding", x.status(-1), 0);
        due("what 8", x.count(8), BEYOND);
        due("what -1", x.count(-1), BEYOND);
        due("findings", x.status(-1), 2);
    }

    private static void status() {
        NavyOfCats x = new NavyOfCats();
        for (int which = -1; which < 7; which++) {
            due("none yet", x.status(which), 0);
        }
        due("which 7", x.status(7), BEYOND);
        due("counted from then on", x.status(0), 1);
        due("which -2", x.status(-2), BEYOND);
        due("all", x.status(-1), 2);
        for (int i = 0; i < 9; i++) {
            x.cat(0);
        }
        x.hold(0, 0);
        x.as(0, 1);
        x.lands(0);
        x.lands(1);
        x.orders(0, 0);
        x.load(0);
        x.load(0);
        x.load(0);
        x.sheet(0, 8, -1);
        x.drives(-1);
        told(x, "cat");
        int[] many = {3, 1, 1, 2, 1, 3, 1};
        for (int which = 0; which < 7; which++) {
            due("which " + which, x.status(which), many[which]);
        }
        due("all", x.status(-1), 12);
        x.image();
        x.load(0);
        x.undo();
        due("undo takes none back", x.status(-1), 13);
        countedCalls();
        countedSheets();
    }

    /** An act tells a finding, and status() knows of it, of that one alone. */
    private static void counted(NavyOfCats x, int finding, String call, LongSupplier act) {
        int all = x.status(-1);
        int such = x.status(BEYOND - finding);
        due(call, act.getAsLong(), finding);
        due("all, behind " + call, x.status(-1), all + 1);
        due("such, behind " + call, x.status(BEYOND - finding), such + 1);
    }

    private static void countedCalls() {
        NavyOfCats x = navy("cat hunger 99;store 0");
        counted(x, BEYOND, "cat", () -> x.cat(7));
        counted(x, BEYOND, "of", () -> x.of(1, 0));
        counted(x, BEYOND, "of", () -> x.of(0, 4));
        counted(x, BEYOND, "change", () -> x.change(1, 0, 0));
        counted(x, BEYOND, "change", () -> x.change(0, 0, 7));
        counted(x, BEYOND, "ship", () -> x.ship(4, 0));
        counted(x, BEYOND, "ship", () -> x.ship(0, 7));
        counted(x, BEYOND, "steer", () -> x.steer(4, 0, 0));
        counted(x, BEYOND, "steer", () -> x.steer(0, 0, 100));
        counted(x, BEYOND, "island", () -> x.island(100, 0));
        counted(x, BEYOND, "wind", () -> x.wind(8));
        counted(x, BEYOND, "fish", () -> x.fish(-1));
        counted(x, BEYOND, "store", () -> x.store(-1));
        counted(x, BEYOND, "go", () -> x.go(0));
        counted(x, BEYOND, "feeds", () -> x.feeds(2));
        counted(x, STATE, "feeds", () -> x.feeds(1));
        counted(x, BEYOND, "now", () -> x.now(6));
        counted(x, BEYOND, "ahead", () -> x.ahead(0, 201));
        counted(x, BEYOND, "lands", () -> x.lands(4));
        counted(x, NONE, "lands", () -> x.lands(0));
        counted(x, BEYOND, "meets", () -> x.meets(0, 0));
        counted(x, BEYOND, "sits", () -> x.sits(0, 201));
        counted(x, BEYOND, "order", () -> x.order(4));
        counted(x, NONE, "order", () -> x.order(0));
        counted(x, BEYOND, "soonest", () -> x.soonest(4));
        counted(x, NONE, "soonest", () -> x.soonest(0));
        counted(x, BEYOND, "orders", () -> x.orders(0, 100));
        counted(x, STATE, "orders", () -> x.orders(0, 0));
        counted(x, BEYOND, "surest", () -> x.surest(4));
        counted(x, BEYOND, "winds", () -> x.winds(4));
        counted(x, BEYOND, "windFor", () -> x.windFor(4));
        counted(x, NONE, "windFor", () -> x.windFor(0));
        counted(x, BEYOND, "crew", () -> x.crew(9));
        counted(x, NONE, "crew", () -> x.crew(2));
        counted(x, BEYOND, "mean", () -> x.mean(9));
        counted(x, NONE, "mean", () -> x.mean(2));
        counted(x, BEYOND, "better", () -> x.better(4));
        counted(x, BEYOND, "spy", () -> x.spy(0, 0, 41));
        counted(x, STATE, "spy", () -> x.spy(0, 0, 40));
        counted(x, BEYOND, "uses", () -> x.uses(0, 0));
        counted(x, BEYOND, "hunger", () -> x.hunger(201));
        counted(x, NONE, "hunger", () -> x.hunger(1));
        counted(x, BEYOND, "storms", () -> x.storms(0));
        counted(x, BEYOND, "odds", () -> x.odds(0, 2));
        counted(x, BEYOND, "drives", () -> x.drives(21));
        counted(x, NONE, "undo", () -> x.undo());
        counted(x, BEYOND, "count", () -> x.count(8));
        counted(x, BEYOND, "status", () -> x.status(7));
    }

    private static void countedSheets() {
        NavyOfCats x = new NavyOfCats();
        counted(x, NONE, "better", () -> x.better(0));
        counted(x, BEYOND, "feed", () -> x.feed(0, 5));
        for (int i = 0; i < 30; i++) {
            x.feed(0, 4);
        }
        counted(x, FULL, "feed", () -> x.feed(0, 1));
        for (int i = 0; i < 8; i++) {
            x.cat(0);
        }
        counted(x, FULL, "cat", () -> x.cat(0));
        counted(x, BEYOND, "hold", () -> x.hold(10, 0));
        x.hold(0, 0);
        counted(x, BEYOND, "as", () -> x.as(10, 0));
        counted(x, MISSING, "as", () -> x.as(1, 0));
        counted(x, KIND, "as", () -> x.as(0, 1));
        counted(x, BEYOND, "sheet", () -> x.sheet(4, 8, 0));
        counted(x, SIZE, "sheet", () -> x.sheet(0, 8, -1));
        counted(x, BEYOND, "sheet", () -> x.sheet(0, 8, 41));
        x.sheet(1, 8, 1);
        x.sheet(2, 16, 1);
        x.write(1, 0, 50);
        counted(x, BEYOND, "write", () -> x.write(4, 0, 0));
        counted(x, MISSING, "write", () -> x.write(0, 0, 0));
        counted(x, BEYOND, "write", () -> x.write(1, 1, 0));
        counted(x, BEYOND, "copy", () -> x.copy(4, 0, 1, 0, 0));
        counted(x, MISSING, "copy", () -> x.copy(0, 0, 1, 0, 0));
        counted(x, KIND, "copy", () -> x.copy(1, 0, 2, 0, 0));
        counted(x, BEYOND, "copy", () -> x.copy(1, 0, 1, 0, 2));
        counted(x, BEYOND, "load", () -> x.load(4));
        counted(x, MISSING, "load", () -> x.load(0));
        counted(x, BEYOND, "judge", () -> x.judge(4));
        counted(x, MISSING, "judge", () -> x.judge(0));
        counted(x, BEYOND, "kinds", () -> x.kinds(4, 0));
        counted(x, MISSING, "kinds", () -> x.kinds(0, 0));
        counted(x, BEYOND, "kinds", () -> x.kinds(1, 8));
        counted(x, BEYOND, "habits", () -> x.habits(4, 0));
        counted(x, MISSING, "habits", () -> x.habits(0, 0));
        counted(x, BEYOND, "habits", () -> x.habits(1, 8));
        counted(x, BEYOND, "begun", () -> x.begun(4, 0));
        counted(x, MISSING, "begun", () -> x.begun(0, 0));
        counted(x, BEYOND, "begun", () -> x.begun(1, 4));
        counted(x, BEYOND, "from", () -> x.from(4, 0));
        counted(x, MISSING, "from", () -> x.from(0, 0));
        counted(x, BEYOND, "from", () -> x.from(1, 4));
        counted(x, NONE, "from", () -> x.from(1, 0));
        x.steer(1, 0, 99);
        x.steer(1, 1, 16);
        counted(x, NONE, "meets", () -> x.meets(0, 1));
    }
}
