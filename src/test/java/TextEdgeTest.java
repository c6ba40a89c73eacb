/** The boundary cases of the tape and of texts: terms 3, promises 39 to 41. Answers are worked out by hand. */
public final class TextEdgeTest extends Checks {
    public static void main(String[] args) {
        feeds();
        wipes();
        numbers();
        setsOfCats();
        tokens();
        bytes();
        faults();
        endsTooEarly();
        ninthCat();
        items();
        end("TextEdgeTest");
    }

    /** A text that is read, on a navy of its own, behind others. */
    private static void reads(String text, int items, String... before) {
        NavyOfCats x = navy(before);
        due("text \"" + text + "\"", told(x, text), items);
        due("the tape behind \"" + text + "\"", x.count(5), 0);
        due("findings behind \"" + text + "\"", x.status(-1), 0);
    }

    private static void fault(String text, int place, String... before) {
        reads(text, -1 - place, before);
    }

    private static NavyOfCats withBytes(int bytes) {
        NavyOfCats x = new NavyOfCats();
        feed(x, " ".repeat(bytes));
        due("bytes", x.count(5), bytes);
        return x;
    }

    private static void feeds() {
        says(39, "THE TAPE gets the n lowest bytes .. (n 1 to 4): how many it has. BEYOND: n");
        int[] wrong = {LEAST, -4, -1, 0, 5, 8, MOST};
        for (int n : wrong) {
            NavyOfCats x = withBytes(7);
            due("n " + n, x.feed(0x61626364, n), BEYOND);
            due("bytes", x.count(5), 7);
        }
        for (int n = 1; n <= 4; n++) {
            due("n " + n, new NavyOfCats().feed(-1, n), n);
        }
        says(39, "the n lowest bytes of a number .., the highest of these first");
        // Of "wold" "ld" is no word; of "-old" and of a byte 255 ahead of " to" three bytes come, so that sign and byte don't.
        NavyOfCats x = new NavyOfCats();
        x.feed(0x776f6c64, 2);
        due("what stands above the two is left out", x.text(), -1);
        x.feed(0x2d6f6c64, 3);
        due("old, and not its sign", x.text(), 1);
        due("kind", x.of(0, 0), 3);
        x.feed(0xff20746f, 3);
        due("bytes", x.feed(0x8080806d, 1), 4);
        due("tom, and no byte above 127", x.text(), 1);
        due("kind", x.of(1, 0), 1);
        x.feed(0xff636174, 4);
        due("with the byte 255", x.text(), -1);
        x.feed(0x636174ff, 4);
        due("with the byte 255 behind", x.text(), -4);
        says(39, "FULL (at most 120)");
        for (int bytes = 115; bytes <= 120; bytes++) {
            for (int n = 1; n <= 4; n++) {
                NavyOfCats y = withBytes(bytes);
                boolean fits = bytes + n <= 120;
                due(n + " behind " + bytes, y.feed(0x20202020, n), fits ? bytes + n : FULL);
                due("bytes", y.count(5), fits ? bytes + n : bytes);
            }
        }
        NavyOfCats full = withBytes(120);
        due("full", full.feed(0, 1), FULL);
        due("wipe", full.wipe(), 120);
        due("not full any more", full.feed(0, 4), 4);
        NavyOfCats read = withBytes(120);
        due("all blanks", read.text(), -121);
        due("not full any more", read.feed(0, 4), 4);
    }

    private static void wipes() {
        says(40, "THE TAPE is empty: how many it had");
        due("none", new NavyOfCats().wipe(), 0);
        NavyOfCats x = withBytes(119);
        due("119", x.wipe(), 119);
        due("none", x.wipe(), 0);
        due("bytes", x.count(5), 0);
        due("text", x.text(), -1);
    }

    /** The greatest number there and one more; 0; none below 0; zeros ahead change nothing; many digits don't wrap around. */
    private static void number(String ahead, int most, String... before) {
        int place = ahead.length();
        reads(ahead + most, 1, before);
        reads(ahead + 0, 1, before);
        reads(ahead + "000000" + most, 1, before);
        fault(ahead + (most + 1), place, before);
        fault(ahead + "000000" + (most + 1), place, before);
        fault(ahead + "99999", place, before);
        fault(ahead + "100000", place, before);
        fault(ahead + "4294967296", place, before);
        fault(ahead + "18446744073709551616", place, before);
        fault(ahead + "-", place, before);
        fault(ahead + ";", place, before);
        fault(ahead + "x", place, before);
        fault(ahead + "cat", place, before);
    }

    private static void numbers() {
        says(0, "perhaps hunger and a NUMBER (0 to 99)");
        number("cat hunger ", 99);
        fault("cat hunger -1", 11);
        says(0, "perhaps habit, perhaps - and a NUMBER (0 to 15)");
        reads("old habit 15", 1);
        reads("old habit 0", 1);
        fault("old habit 16", 10);
        number("old habit - ", 15);
        number("old hunger 99 habit -", 15);
        says(0, "island, a NUMBER (a CELL)");
        number("island ", 99);
        fault("island -1", 7);
        says(0, "ship, a NUMBER (0 to 3)");
        number("ship ", 3);
        says(0, "perhaps at and a NUMBER (a CELL)");
        number("ship 3 at ", 99);
        says(0, "perhaps order and a NUMBER (a POINT)");
        number("ship 3 order ", 31);
        number("ship 3 at 99 order ", 31);
        says(0, "wind, a NUMBER (0 to 7)");
        number("wind ", 7);
        says(0, "store, a NUMBER (0 to 9999)");
        number("store ", 9999);
        says(0, "fish, a NUMBER (0 to 65535)");
        number("fish ", 65535);
        says(0, "NUMBERS (digits, 99999 at most)");
        fault("fish 100001", 5);
        fault("fish 655350", 5);
        fault("5", 0);
        fault("99999", 0);
        fault("100000", 0);
        says(41, "all that it tells is so");
        NavyOfCats x = navy("old hunger 99 habit -15;old habit 15;fish 65535;store 9999;wind 7;island 99;island 0");
        due("hunger", x.of(0, 1), 99);
        due("habit", x.of(0, 2), -15);
        due("habit", x.of(1, 2), 15);
        due("fish", x.fish(0), 65535);
        due("store", x.now(1), 9999);
        due("wind", x.now(2), 7);
        due("islands", x.count(2), 2);
        due("island 0", x.island(0, 1), 0);
        due("island 99", x.island(99, 1), 0);
        due("a ship", told(x, "ship 3 at 99 order 31 aboard 3"), 1);
        due("at", x.ship(3, 0), 99);
        due("order", x.ship(3, 1), 31);
        due("aboard", x.ship(3, 2), 3);
    }

    private static void setsOfCats() {
        says(0, "perhaps aboard and a NUMBER (a set of CATS there by then)");
        for (int cats = 1; cats <= 8; cats++) {
            number("ship 0 aboard ", (1 << cats) - 1, cats("cat", Math.min(cats, 4)), cats > 4 ? cats("tom", cats - 4) : "ship 0");
        }
        reads("ship 0 aboard 0", 1);
        fault("ship 0 aboard 1", 14);
        reads("cat;ship 0 aboard 1", 2);
        fault("cat;ship 0 aboard 2", 18);
        fault("ship 0 aboard 1;cat", 14);
        fault("cat;ship 0 aboard 1;cat;ship 1 aboard 4", 38);
        reads("cat;ship 0 aboard 1;cat;ship 1 aboard 3", 4);
        reads("cat;ship 0 aboard 128", 2, cats("cat", 7));
    }

    private static String cats(String word, int times) {
        return (word + ";").repeat(times - 1) + word;
    }

    private static void tokens() {
        says(0, "TOKENS, each as long as can be: WORDS (letters a to z)");
        fault("catcat", 0);
        fault("cats", 0);
        fault("ca", 0);
        fault("tomhunger 5", 0);
        fault("cat hungerhabit 5", 4);
        fault("islands 5", 0);
        fault("a", 0);
        fault("z", 0);
        fault("a".repeat(120), 0);
        says(0, "TOKENS, each as long as can be: .. NUMBERS");
        fault("wind 12", 5);
        fault("wind 1 2", 7);
        fault("ship 0 0", 7);
        reads("ship 00", 1);
        reads("wind " + "0".repeat(115), 1);
        fault("wind " + "0".repeat(114) + "8", 5);
        says(0, "SIGNS ; and - (one each)");
        fault("cat;;cat", 4);
        fault("old habit --5", 11);
        fault("cat -", 4);
        fault("-", 0);
        fault(";", 0);
        says(0, "blanks may stand between");
        reads("cat", 1);
        reads(" cat ", 1);
        reads("cat  ;  cat", 2);
        reads("old hunger5habit-5;ship0at5order5aboard1", 2);
        reads(" old  hunger  5  habit  -  5  ;  ship  0  at  5  order  5  aboard  1 ", 2);
        fault("c at", 0);
        fault("wind 1 1", 7);
        fault("h unger", 0);
        reads(" ".repeat(117) + "cat", 1);
        reads("cat" + " ".repeat(117), 1);
    }

    /** Every byte there is, by itself and behind a word. */
    private static void bytes() {
        for (int b = 0; b < 256; b++) {
            boolean letter = b >= 97 && b <= 122;
            boolean blank = b == 32;
            says(0, "FAULT: .. a byte that begins no TOKEN, another WORD, or how many bytes there are if it ends too early");
            NavyOfCats x = new NavyOfCats();
            x.feed(b, 1);
            due("byte " + b, x.text(), blank ? -2 : -1);
            feed(x, "cat");
            x.feed(b, 1);
            int place = letter ? 0 : b == 59 ? 4 : 3;
            due("cat and byte " + b, x.text(), blank ? 1 : -1 - place);
            feed(x, "wind 1");
            x.feed(b, 1);
            boolean digit = b >= 48 && b <= 57;
            place = digit ? 5 : b == 59 ? 7 : 6;
            due("wind 1 and byte " + b, x.text(), blank ? 1 : -1 - place);
            due("findings", x.status(-1), 0);
        }
    }

    private static void faults() {
        says(0, "FAULT: the place (from 0) of the first byte of the first TOKEN that can't stand there");
        fault("cat;tom;dog;pig", 8);
        fault("cat ;  dog", 7);
        fault("cat 99", 4);
        fault("cat tom", 4);
        fault("cat hunger 5 hunger 5", 13);
        fault("cat habit 5 habit 5", 12);
        fault("cat habit 5 hunger 5", 12);
        fault("cat at 5", 4);
        fault("ship 0 order 5 at 5", 15);
        fault("ship 0 aboard 0 order 5", 16);
        fault("ship 0 aboard 0 at 5", 16);
        fault("ship 0 at 5 at 5", 12);
        fault("ship at 5", 5);
        fault("island island", 7);
        fault("wind 1 wind 2", 7);
        for (String word : new String[] {"hunger", "habit", "at", "order", "aboard"}) {
            fault(word + " 5", 0);
        }
        says(0, "the first");
        fault("wind 8;fish 65536", 5);
        fault("wind 8 @", 5);
        fault("wind @ 8", 5);
        fault("@wind 8", 0);
        fault("cat @;", 4);
        says(41, "With a FAULT: -1 less the FAULT");
        fault(" ".repeat(119) + "@", 119);
        fault(" ".repeat(116) + "cats", 116);
        says(41, "(nothing changes but that THE TAPE is empty; no finding)");
        NavyOfCats x = new NavyOfCats();
        due("a fault at the end", told(x, "cat;island 5;wind 3;fish 3;store 3;ship 0 at 3 order 3 aboard 1;wind 8"), -1 - 69);
        due("cats", x.count(1), 0);
        due("islands", x.count(2), 0);
        due("wind", x.now(2), 0);
        due("fish", x.fish(0), 0);
        due("store", x.now(1), 100);
        due("at", x.ship(0, 0), 0);
        due("order", x.ship(0, 1), 0);
        due("aboard", x.ship(0, 2), 0);
        due("tape", x.count(5), 0);
        due("findings", x.status(-1), 0);
    }

    /** Wherever a text may end too early: by itself, with blanks behind it, behind another item, and ahead of one. */
    private static void endsTooEarly() {
        says(0, "how many bytes there are if it ends too early");
        fault("", 0);
        fault(" ", 1);
        fault(" ".repeat(120), 120);
        fault("cat;", 4);
        fault("cat; ", 5);
        fault("cat;" + " ".repeat(116), 120);
        String[] early = {"cat hunger", "cat habit", "cat habit -", "cat hunger 5 habit", "island", "ship", "ship 0 at", "ship 0 order",
            "ship 0 aboard", "ship 0 at 5 order", "ship 0 at 5 order 5 aboard", "wind", "fish", "store"};
        for (String text : early) {
            fault(text, text.length());
            fault(text + "   ", text.length() + 3);
            fault("cat;" + text, text.length() + 4);
            fault(text + ";", text.length());
        }
    }

    private static void ninthCat() {
        says(0, "the WORD of a 9th CAT: its own");
        reads(cats("cat", 8), 8);
        fault(cats("cat", 9), 32);
        fault(cats("cat", 8) + " ; tom hunger 100", 34);
        for (String word : new String[] {"cat", "tom", "kitten", "blind", "old", "prize", "black"}) {
            reads(word, 1, cats("cat", 7));
            fault(word, 0, cats("cat", 8));
            fault("  " + word + " hunger", 2, cats("cat", 8));
            fault("wind 1;" + word, 7, cats("cat", 8));
        }
        NavyOfCats x = navy(cats("cat", 7));
        due("an 8th and a 9th", told(x, "tom;tom"), -1 - 4);
        due("neither is there", x.count(1), 7);
        due("an 8th", told(x, "tom"), 1);
        due("all else is told as ever", told(x, "wind 1;ship 0 aboard 255"), 2);
        due("aboard", x.ship(0, 2), 255);
    }

    private static void items() {
        says(41, "item by item: how many ITEMS");
        reads("cat", 1);
        reads("wind0;".repeat(19) + "wind0", 20);
        reads("ship0;".repeat(19) + "ship0 ", 20);
        fault("ship0;".repeat(20), 120);
        NavyOfCats x = new NavyOfCats();
        due("the last counts", told(x, "wind 1;wind 2;ship 1 at 5 order 3;ship 1 at 6;island 7;island 7"), 6);
        due("wind", x.now(2), 2);
        due("at", x.ship(1, 0), 6);
        due("order stays", x.ship(1, 1), 3);
        due("islands", x.count(2), 1);
        says(41, "THE TAPE is a TEXT, and empty then");
        due("tape", x.count(5), 0);
        due("read again", x.text(), -1);
    }
}
