/** What the tests have in common: answers that are due, navies told by texts, sheets of numbers, a few scenes. */
abstract class Checks {
    static final int BEYOND = -1000001;
    static final int FULL = -1000002;
    static final int KIND = -1000003;
    static final int NONE = -1000004;
    static final int STATE = -1000005;
    static final int MISSING = -1000006;
    static final int SIZE = -1000007;
    static final int LEAST = Integer.MIN_VALUE;
    static final int MOST = Integer.MAX_VALUE;

    private static int asked = 0;
    private static int wrong = 0;
    private static String about = "";

    /** What is asked from here on is due by these words of a promise; 0: of the document's terms. */
    static void says(int promise, String words) {
        about = promise == 0 ? "terms: \"" + words + "\"" : "promise " + promise + ": \"" + words + "\"";
    }

    static void promise(int promise) {
        about = "promise " + promise;
    }

    static void due(String call, long got, long want) {
        asked++;
        if (got != want) {
            wrong++;
            System.out.println(about + ": " + call + " answered " + got + ", due is " + want);
        }
    }

    /** Tells how many answers there were, and ends the test with 1 if one was wrong. */
    static void end(String test) {
        System.out.println(test + ": " + asked + " answers, " + wrong + " of them not as due");
        if (wrong != 0) {
            System.exit(1);
        }
    }

    /** Feeds four bytes a call, so that long texts leave calls for the rest of a test. */
    static void feed(NavyOfCats x, String text) {
        for (int i = 0; i < text.length(); i += 4) {
            int n = Math.min(4, text.length() - i);
            int bytes = 0;
            for (int k = 0; k < n; k++) {
                bytes = bytes << 8 | text.charAt(i + k);
            }
            x.feed(bytes, n);
        }
    }

    static int told(NavyOfCats x, String text) {
        feed(x, text);
        return x.text();
    }

    static NavyOfCats navy(String... texts) {
        NavyOfCats x = new NavyOfCats();
        for (String text : texts) {
            due("text \"" + text + "\"", told(x, text), text.split(";").length);
        }
        return x;
    }

    static NavyOfCats withCats(int cats) {
        NavyOfCats x = new NavyOfCats();
        for (int cat = 0; cat < cats; cat++) {
            due("cat", x.cat(0), cat);
        }
        return x;
    }

    static void sheetOf(NavyOfCats x, int s, int bits, int... numbers) {
        x.sheet(s, bits, numbers.length);
        for (int i = 0; i < numbers.length; i++) {
            x.write(s, i, numbers[i]);
        }
    }

    static int[] repeated(int number, int times) {
        int[] all = new int[times];
        java.util.Arrays.fill(all, number);
        return all;
    }

    /**
     * A tom who has 90 from watch 90 on, and fish once in 16: along the north its ship heads east by 9 and 2 alone
     * (north-east, or what is left of it, by all else), so with fish at t 7 at watches 103, 119 .. 199: to cell 7
     * behind 200 watches. With fish at t 8 (256) that is behind 201.
     */
    static NavyOfCats lateByFish(int fish) {
        return navy("tom;fish " + fish + ";ship 0 order 27 aboard 1;island 7;ship 1 at 7");
    }

    /**
     * A starved tom reads 9, and 11 with fish, once in 16 watches. Whatever its order is, its ship goes straight to
     * an end of the sea within 9 watches, and then only a watch of fish may move it on, to the next heading. Island 5
     * is in none of the eight straight ways from 10; only by north-east to 1, then east (orders 27 and 28) it is
     * come to, in four watches of fish: 11, 27, 43 and 59, behind 60. With fish at t 12 (4096) it is behind 61.
     * A wind from north-east or east keeps it from there, and no wind brings another order there.
     */
    static NavyOfCats justInTime(int fish) {
        return navy("tom hunger 99;fish " + fish + ";ship 0 at 10 order 27 aboard 1;island 5");
    }

    /**
     * Ships that take turns, each going nine cells where the sea lets it. Ship 0 goes east in watches 0 to 8 (by 7
     * and 8), south in 9 to 17 (its prize has 50: 31 and 4 by 2), west in 18 to 26 (so has its old one: 31 and 15 by
     * 2); ship 1 begins in the east, so it goes south in 27 to 35 and west in 36 to 44; ship 2 goes east when its cat
     * has 50, in 45 to 53; ship 3 when its cat has 60, in watch 54 and on for as many cells as there are.
     */
    static NavyOfCats takingTurns(int cellOfTheLast) {
        return navy("prize hunger 41 habit -15;old hunger 32 habit 15",
            "prize hunger 23 habit -15;old hunger 14 habit 15;cat hunger 5;cat hunger 6",
            "ship 0 aboard 3;ship 1 at 9 aboard 12;ship 2 order 1 aboard 16;ship 3 at " + cellOfTheLast + " aboard 32");
    }
}
