/**
 * Two scenes of PromiseTest were found by a search with the program, so the program can't vouch for their answers:
 * here NavyModel, written apart from it, is asked for the same.
 */
public final class SceneTest {
    private static final int NONE = 3;
    private static int wrong = 0;

    private interface Act {
        long ask();
    }

    /** A finding of the model comes as an exception; it is told here as NavyOfCats would. */
    private static void due(String call, Act act, long want) {
        long got;
        try {
            got = act.ask();
        } catch (NavyModel.Found found) {
            got = NavyModel.LOW - found.which;
        }
        if (got != want) {
            wrong++;
            System.out.println("SceneTest: " + call + ": the model answers " + got + ", PromiseTest has " + want);
        }
    }

    private static NavyModel told(String... texts) {
        NavyModel x = new NavyModel();
        for (String text : texts) {
            for (char c : text.toCharArray()) {
                x.feed(c, 1);
            }
            due("text \"" + text + "\"", x::text, text.split(";").length);
        }
        return x;
    }

    public static void main(String[] args) {
        takingTurns();
        justInTime(2048, 3, 60, 8, 3, 6, 0);
        int none = NavyModel.LOW - NONE;
        justInTime(4096, none, none, 0, 0, 0, none);
        System.out.println("SceneTest: " + wrong + " answers are not the model's");
        if (wrong != 0) {
            System.exit(1);
        }
    }

    private static void takingTurns() {
        NavyModel z = told("old hunger 18 habit -15;old hunger 6 habit -11;cat hunger 25;cat hunger 17",
            "prize hunger 33 habit -13;prize hunger 26 habit -6;wind 7",
            "ship 0 at 54 order 28 aboard 3;ship 1 at 94 order 24 aboard 4",
            "ship 2 at 81 order 31 aboard 8;ship 3 at 79 order 13 aboard 48");
        due("still", z::still, NavyModel.LOW - NONE);
        z.go(1);
        due("still behind one", z::still, 60);
    }

    private static void justInTime(int fish, long order, long soonest, long orders, long surest, long winds, long windFor) {
        NavyModel x = told("tom hunger 56;fish " + fish + ";wind 7;ship 0 at 2 order 3 aboard 1;island 29");
        due("order", () -> x.order(0), order);
        due("soonest", () -> x.soonest(0), soonest);
        due("orders", () -> x.orders(0, 29), orders);
        due("surest", () -> x.surest(0), surest);
        due("winds", () -> x.winds(0), winds);
        due("windFor", () -> x.windFor(0), windFor);
    }
}
