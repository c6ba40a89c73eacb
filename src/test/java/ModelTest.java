import java.lang.reflect.InvocationTargetException;
import java.lang.reflect.Method;
import java.util.ArrayList;
import java.util.Arrays;
import java.util.List;
import java.util.Random;

/** Runs of calls by fixed draws, no longer than an object is used, each asked of NavyOfCats and of NavyModel: their answers are the same. */
public final class ModelTest {
    private static final int RUNS = 800;
    private static final int CALLS = 320;

    /** Each call with what its arguments are, so that most draws are inputs that mean something. */
    private static final String[] CALLS_AND_ARGUMENTS = {
        "cat kind", "of cat 0..3", "change cat 0..2 habit", "change cat 0..0 kind", "change cat 1..1 0..99",
        "ship ship 0..6", "steer ship 0..0 cell", "steer ship 1..1 0..31", "steer ship 2..2 0..255",
        "steer ship 0..2 0..100", "island cell 0..1", "island cell 1..1", "wind 0..7", "fish 0..65535", "store 0..9999", "store 0..60",
        "go 1..60", "go 1..4", "go 1..2", "feeds 0..255", "feeds 0..7", "now 0..5", "ahead ship 0..200", "ahead ship 0..9", "lands ship",
        "meets ship ship", "still", "sits cat 0..200", "order ship", "soonest ship", "orders ship cell",
        "surest ship", "winds ship", "windFor ship", "crew 1..8", "mean 1..8", "better ship",
        "spy ship cat 0..40", "uses 0..200 1..99", "hunger 0..200", "kinds 0..3 cat", "habits 0..3 cat",
        "begun 0..3 ship", "from 0..3 ship", "storms 1..20", "storms 1..2", "odds ship 0..1", "drives 0..20", "seed any",
        "feed any 1..4", "wipe", "text", "hold 0..9 cat", "hold 0..9 -1..-1", "as 0..9 kind", "sheet 0..3 bits 0..4",
        "sheet 0..3 bits -1..41", "write 0..3 0..4 -2..9", "write 0..3 0..40 any", "copy 0..3 0..4 0..3 0..4 0..3",
        "copy 0..3 -1..40 0..3 -1..40 -1..40", "load 0..3", "judge 0..3", "image", "undo", "tear", "count 0..7", "status -1..6",
    };

    private static final int[] WILD = {Integer.MIN_VALUE, Integer.MAX_VALUE, -1, 0, 1, -2, 7, 8, 9, 10, 16, 32, 40,
        41, 60, 61, 99, 100, 120, 200, 201, 255, 256, 9999, 10000, 65535, 65536, -15, -16, 15, 1 << 30, -1000001};

    private static final String[] WORDS = {"cat", "tom", "kitten", "old", "prize", "blind", "black", "island", "ship",
        "wind", "fish", "store", "hunger", "habit", "at", "order", "aboard", ";", "-", " ", "x", "\t", "C", "\u00e9"};

    private static int wrong = 0;

    public static void main(String[] args) throws Exception {
        for (int run = 0; run < RUNS && wrong < 10; run++) {
            run(run);
        }
        System.out.println(wrong == 0 ? "ModelTest: all answers are the model's" : "ModelTest: " + wrong + " runs went apart");
        if (wrong != 0) {
            System.exit(1);
        }
    }

    private static void run(int run) throws Exception {
        Pair pair = new Pair(new Random(run));
        // Some runs make their cats first, others meet calls without any.
        for (int i = 0; i < run % 9; i++) {
            pair.same("cat", pair.draws.nextInt(7));
        }
        while (pair.agrees && pair.log.size() < CALLS) {
            switch (pair.draws.nextInt(25)) {
                case 0: pair.scene(); break;
                case 1: pair.log(); break;
                case 2: pair.told(someText(pair.draws)); break;
                case 3: pair.fill(); break;
                default: pair.any(); break;
            }
        }
        for (int which = -1; which < 7; which++) {
            pair.same("status", which);
        }
        if (!pair.agrees) {
            wrong++;
            System.out.println("due is " + pair.due + " at the end of: " + String.join("; ", pair.log));
        }
    }

    /** The navy and its model, asked the same until they answer otherwise. */
    private static final class Pair {
        final Random draws;
        final NavyOfCats navy = new NavyOfCats();
        final NavyModel model = new NavyModel();
        final List<String> log = new ArrayList<>();
        boolean agrees = true;
        long due;

        Pair(Random draws) { this.draws = draws; }

        long same(String call, int... arguments) throws Exception {
            if (!agrees) {
                return 0;
            }
            long got = ask(navy, call, arguments);
            due = askModel(model, call, arguments);
            log.add(call + Arrays.toString(arguments) + " = " + got);
            agrees = got == due;
            return due;
        }

        void any() throws Exception {
            String[] words = CALLS_AND_ARGUMENTS[draws.nextInt(CALLS_AND_ARGUMENTS.length)].split(" ");
            int[] arguments = new int[words.length - 1];
            for (int a = 0; a < arguments.length; a++) {
                arguments[a] = argument(words[a + 1], draws);
            }
            same(words[0], arguments);
        }

        /** Ships out at sea, some of them with cats that aren't all starved, and islands to land at. */
        void scene() throws Exception {
            int cats = (int) same("count", 1);
            for (int cat = 0; cat < cats; cat++) {
                same("change", cat, 1, draws.nextInt(draws.nextBoolean() ? 100 : 20));
            }
            for (int ship = 0; ship < 4; ship++) {
                same("steer", ship, 0, draws.nextInt(100));
                same("steer", ship, 1, draws.nextInt(32));
                same("steer", ship, 2, draws.nextInt(1 << cats));
            }
            int cell = draws.nextInt(100);
            same("island", cell, 1);
            same("island", draws.nextInt(100), 0);
            for (int ship = 0; ship < 4; ship++) {
                same("orders", ship, cell);
                same("lands", ship);
                same("windFor", ship);
                same("meets", ship, draws.nextInt(4));
                same("spy", ship, draws.nextInt(8), draws.nextInt(41));
            }
            same("still");
        }

        /** A sheet that tells what will be, but for a number that is now and then another. */
        void log() throws Exception {
            int s = draws.nextInt(4);
            int n = draws.nextInt(8);
            int of = draws.nextInt(4);
            int what = draws.nextInt(3);
            same("sheet", s, 8 << draws.nextInt(3), n);
            for (int i = 0; i < n; i++) {
                int v = (int) same(what == 0 ? "sits" : "ahead", of, i);
                v = what == 2 ? v / 10 : v;
                same("write", s, i, draws.nextInt(12) == 0 ? draws.nextInt(12) - 2 : v);
            }
            same("kinds", s, of);
            same("habits", s, of);
            same("begun", s, of);
            same("from", s, of);
            same("judge", s);
        }

        /** The tape gets as many bytes as it can take, and more; seldom, as it takes many calls. */
        void fill() throws Exception {
            int calls = draws.nextInt(4) == 0 ? 40 : 0;
            for (int i = 0; i < calls; i++) {
                same("feed", 0x20202020, draws.nextInt(5) == 0 ? 1 : 4);
            }
        }

        void told(String text) throws Exception {
            if (draws.nextInt(10) != 0) {
                same("wipe");
            }
            for (int c = 0; c < text.length(); c++) {
                same("feed", text.charAt(c), 1);
            }
            same("text");
        }
    }

    private static int argument(String kind, Random draws) {
        int luck = draws.nextInt(100);
        if (luck < 2) {
            return WILD[draws.nextInt(WILD.length)];
        }
        switch (kind) {
            case "any": return draws.nextInt(3) == 0 ? draws.nextInt(300) - 100 : draws.nextInt();
            case "kind": return draws.nextInt(luck < 5 ? 8 : 7);
            case "cat": return draws.nextInt(luck < 5 ? 9 : 4);
            case "ship": return draws.nextInt(luck < 5 ? 5 : 4);
            case "cell": return draws.nextInt(luck < 5 ? 101 : 100);
            case "habit": return draws.nextInt(33) - 16;
            case "bits": return new int[] {8, 8, 8, 16, 32, 0, 7}[draws.nextInt(7)];
            default:
                int dots = kind.indexOf("..");
                int least = Integer.parseInt(kind.substring(0, dots));
                int most = Integer.parseInt(kind.substring(dots + 2));
                return least + draws.nextInt(most - least + 1) + (luck < 5 ? draws.nextInt(3) - 1 : 0);
        }
    }

    /** A text by the grammar, in which now and then a word, a number or a blank is put, left out or changed. */
    private static String someText(Random draws) {
        StringBuilder text = new StringBuilder();
        int items = 1 + draws.nextInt(4);
        for (int i = 0; i < items; i++) {
            text.append(i == 0 ? "" : ";").append(someItem(draws));
        }
        if (draws.nextInt(2) == 0) {
            int changes = 1 + draws.nextInt(2);
            for (int i = 0; i < changes; i++) {
                int at = draws.nextInt(text.length() + 1);
                switch (draws.nextInt(4)) {
                    case 0: text.insert(at, WORDS[draws.nextInt(WORDS.length)]); break;
                    case 1: text.insert(at, draws.nextInt(200)); break;
                    case 2: if (at < text.length()) text.deleteCharAt(at); break;
                    default: text.setLength(Math.max(1, at)); break;
                }
            }
        }
        return text.toString();
    }

    private static String someItem(Random draws) {
        String gap = draws.nextInt(4) == 0 ? "" : draws.nextInt(4) == 0 ? "  " : " ";
        StringBuilder item = new StringBuilder();
        switch (draws.nextInt(8)) {
            case 0: return "island" + gap + draws.nextInt(101);
            case 1: return "wind" + gap + draws.nextInt(9);
            case 2: return "fish" + gap + draws.nextInt(66000);
            case 3: return "store" + gap + draws.nextInt(10100);
            case 4: case 5:
                item.append("ship").append(gap).append(draws.nextInt(4));
                part(item, draws, gap, "at", 100);
                part(item, draws, gap, "order", 33);
                part(item, draws, gap, "aboard", 70);
                return item.toString();
            default:
                item.append(WORDS[draws.nextInt(7)]).append(' ');
                part(item, draws, gap, "hunger", 101);
                if (draws.nextInt(2) == 0) {
                    item.append(gap).append("habit").append(gap).append(draws.nextInt(2) == 0 ? "-" : "").append(draws.nextInt(17));
                }
                return item.toString();
        }
    }

    private static void part(StringBuilder item, Random draws, String gap, String word, int bound) {
        if (draws.nextInt(2) == 0) {
            item.append(gap).append(word).append(gap).append(draws.nextInt(10) == 0 ? "00" : "").append(draws.nextInt(bound));
        }
    }

    private static Method named(Class<?> type, String call) {
        for (Method m : type.getDeclaredMethods()) {
            if (m.getName().equals(call)) {
                return m;
            }
        }
        throw new IllegalArgumentException(call);
    }

    private static long ask(Object it, String call, int[] arguments) throws Exception {
        Object[] boxed = Arrays.stream(arguments).boxed().toArray();
        return ((Number) named(it.getClass(), call).invoke(it, boxed)).longValue();
    }

    private static long askModel(NavyModel model, String call, int[] arguments) throws Exception {
        try {
            return ask(model, call, arguments);
        } catch (InvocationTargetException e) {
            if (e.getCause() instanceof NavyModel.Found) {
                int which = ((NavyModel.Found) e.getCause()).which;
                model.counts[which]++;
                return NavyModel.LOW - which;
            }
            throw e;
        }
    }
}
