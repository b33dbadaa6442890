import java.util.ArrayDeque;
import java.util.Deque;
import java.util.List;

/** The edges that the document names of the log, the seed, acts undone, the image and counts (promises 43 to 49). */
public final class MemoryEdgesTest {
    private static final int[] FAR_OUT = {-1, Integer.MIN_VALUE, Integer.MAX_VALUE};
    private static final String RICH = "diner taste 3 at 0;diner taste 5 at 1 diet;diner taste 2 at 4;cellar a grains 90 at 0;"
            + "cellar b grains 80 at 1 set 2 step 3;cellar a grains 70 at 9 step 9;sweet 3;spill 30;damp 20";

    public static void main(String[] args) {
        sixtyRows();
        rowsAboveNothing();
        rowsAsItIsThen();
        ledByNone();
        rowsFallOut();
        seedAsItWas();
        everyActIsUndone();
        twelveActs();
        actsRoundAndRound();
        coursesAreOneAct();
        actsWithoutChange();
        undoneButForSome();
        textsForget();
        refusedDoNotForget();
        imageOfNothing();
        oneImage();
        imageButForSome();
        imageOfANewObject();
        counts();
        Check.ends("MemoryEdgesTest");
    }

    /** A pinch of 1 in each course: ahead of each the cellar is passed back to the only diner. */
    private static SaltTable pinchEach(int rows) {
        SaltTable x = Check.table("diner taste 1 at 0;cellar a grains 200 at 0");
        for (int i = 0; i < rows; i++) {
            x.pass(0, 0);
            x.courses(1);
        }
        return x;
    }

    /** "THE LOG: the latest 60 PINCHES above 0"; "so many ago (0 the latest) ...; NONE without." */
    private static void sixtyRows() {
        int[][] wants = {{0, 0}, {1, 1}, {59, 59}, {60, 60}, {61, 60}, {120, 60}, {121, 60}};
        for (int[] want : wants) {
            SaltTable x = pinchEach(want[0]);
            int rows = want[1];
            Check.due("rows of " + want[0], rows, () -> x.count(12));
            Check.due("led of " + want[0], rows, () -> x.led(0, false));
            for (int what = 0; what < 5; what++) {
                int w = what;
                Check.due("none so long ago", -1, () -> x.log(rows, w));
                Check.due("none ahead of the latest", -1, () -> x.log(-1, w));
                Check.due("none at the most", -1, () -> x.log(Integer.MAX_VALUE, w));
                Check.due("none at the least", -1, () -> x.log(Integer.MIN_VALUE, w));
            }
            if (rows > 0) {
                int latest = want[0] - 1;
                int oldest = want[0] - rows;
                Check.due("the latest course", latest % 12, () -> x.log(0, 1));
                Check.due("the latest dinner", latest / 12, () -> x.log(0, 0));
                Check.due("the oldest course", oldest % 12, () -> x.log(rows - 1, 1));
                Check.due("the oldest dinner", oldest / 12, () -> x.log(rows - 1, 0));
            }
        }
    }

    /** "PINCHES above 0". */
    private static void rowsAboveNothing() {
        SaltTable x = Check.table("diner taste 0 at 0;diner taste 5 at 1 diet;diner taste 1 at 2;cellar a grains 9 at 0;"
                + "cellar a grains 9 at 1;cellar a grains 9 at 2 set 1;cellar a grains 9 at 2;cellar a grains 9 at 5;sweet 1");
        x.courses(1);
        Check.due("one alone took", 1, () -> x.count(12));
        Check.due("from cellar 3", 3, () -> x.log(0, 3));
        Check.due("by diner 2", 2, () -> x.log(0, 2));
        Check.due("one grain", 1, () -> x.log(0, 4));
        x.pass(3, 2);
        x.courses(1);
        Check.due("none in a sweet course", 1, () -> x.count(12));
    }

    /** "DINNER, COURSE (as it is then), the DINER, the CELLAR, how much." */
    private static void rowsAsItIsThen() {
        SaltTable x = Check.law(Check.table("diner taste 0 at 3;diner taste 9 at 0;cellar b grains 1 at 7;"
                + "cellar a grains 200 at 0;course 11"),
                "take 30;take 30;take 30;take 30;take 30;take 30;take 11");
        x.courses(1);
        int[] wants = {0, 11, 1, 1, 200};
        for (int what = 0; what < 5; what++) {
            int w = what;
            Check.due("the last course of a dinner, what " + what, wants[what], () -> x.log(0, w));
        }
        x.change(0, 3);
        x.diet(1, true);
        x.pass(0, 5);
        x.courses(30);
        for (int what = 0; what < 5; what++) {
            int w = what;
            Check.due("a row does not change later, what " + what, wants[what], () -> x.log(x.count(12) - 1, w));
        }
    }

    /** "LED: how many rows of THE LOG are of a CELLAR; the DINNER of the latest (none)." */
    private static void ledByNone() {
        SaltTable x = Check.table("diner taste 1 at 0;cellar a grains 9 at 5 step 5;cellar a grains 9 at 1 step 5;course 11");
        Check.due("no rows", 0, () -> x.led(0, false));
        Check.due("no dinner", -1, () -> x.led(0, true));
        x.courses(2);
        Check.due("a row", 1, () -> x.led(0, false));
        Check.due("of dinner 1", 1, () -> x.led(0, true));
        Check.due("no rows of the other", 0, () -> x.led(1, false));
        Check.due("no dinner of the other", -1, () -> x.led(1, true));
        x.courses(12);
        Check.due("seven rows", 7, () -> x.led(0, false));
        Check.due("the latest of dinner 2", 2, () -> x.led(0, true));
    }

    private static void rowsFallOut() {
        SaltTable x = Check.table("diner taste 1 at 0;cellar a grains 1 at 0;cellar b grains 200 at 1");
        x.courses(1);
        for (int i = 0; i < 59; i++) {
            x.pass(1, 0);
            x.courses(1);
        }
        Check.due("its row is the oldest", 0, () -> x.log(59, 3));
        Check.due("one row of it", 1, () -> x.led(0, false));
        Check.due("dinner 0", 0, () -> x.led(0, true));
        x.pass(1, 0);
        x.courses(1);
        Check.due("it fell out", 0, () -> x.led(0, false));
        Check.due("no dinner then", -1, () -> x.led(0, true));
        Check.due("all sixty are the other's", 60, () -> x.led(1, false));
        x.undo();
        Check.due("undone it is there again", 1, () -> x.led(0, false));
        Check.due("as the oldest", 0, () -> x.log(59, 3));
    }

    /** "SEED: what it was." "(SEED 1 at first)" */
    private static void seedAsItWas() {
        SaltTable x = new SaltTable();
        int was = 1;
        for (int seed : new int[] {Integer.MIN_VALUE, Integer.MAX_VALUE, 0, -1, 1}) {
            int want = was;
            Check.due("before " + seed, want, () -> x.seed(seed));
            was = seed;
        }
        Check.due("it is no act", 0, () -> x.count(13));
        Check.due("so there is none to undo", false, x::undo);
        Check.same("the last one stays", "1", "" + Seen.seed(x));
    }

    private static void act(SaltTable x, int number) {
        switch (number % 9) {
            case 0 -> x.pass(0, 6);
            case 1 -> x.knock(1);
            case 2 -> x.fill(2, 3);
            case 3 -> x.change(0, 8);
            case 4 -> x.diet(1, false);
            case 5 -> x.sweet(3, false);
            case 6 -> x.courses(13);
            case 7 -> x.sweet(11, true);
            default -> x.diet(0, true);
        }
    }

    /** "all is as ahead of it". */
    private static void everyActIsUndone() {
        for (int number = 0; number < 9; number++) {
            SaltTable x = Check.law(Check.table(RICH), "take 1 if has > 3;set 2");
            x.courses(9);
            String before = Seen.of(x);
            act(x, number);
            Check.same("act " + number + " changes something", "false", "" + before.equals(Seen.of(x)));
            Check.due("two acts", 2, () -> x.count(13));
            Check.due("act " + number + " undone", true, x::undo);
            Check.same("all is as ahead of act " + number, before, Seen.of(x));
            Check.due("one act", 1, () -> x.count(13));
        }
    }

    /** "(12 are remembered; ...)"; "UNDONE: whether there was one." */
    private static void twelveActs() {
        for (int many : new int[] {0, 1, 11, 12, 13, 24, 25}) {
            SaltTable x = Check.table(RICH);
            Deque<String> before = new ArrayDeque<>();
            for (int i = 0; i < many; i++) {
                before.push(Seen.of(x));
                act(x, i);
            }
            int can = Math.min(12, many);
            Check.due("of " + many, can, () -> x.count(13));
            for (int i = 0; i < can; i++) {
                Check.due("undo of " + many, true, x::undo);
                Check.same("as ahead of act " + (many - 1 - i) + " of " + many, before.pop(), Seen.of(x));
            }
            Seen.unmoved("no more of " + many, false, x, x::undo);
        }
    }

    /** "the latest ACT not undone yet". */
    private static void actsRoundAndRound() {
        SaltTable x = Check.table(RICH);
        Deque<String> before = new ArrayDeque<>();
        for (int i = 0; i < 40; i++) {
            before.push(Seen.of(x));
            act(x, i);
            if (i % 3 == 2) {
                x.undo();
                Check.same("undone in round " + i, before.pop(), Seen.of(x));
            }
        }
        for (int i = 0; i < 12; i++) {
            Check.due("twelve of those not undone", true, x::undo);
            Check.same("as ahead of it", before.pop(), Seen.of(x));
        }
        Check.due("not a thirteenth", false, x::undo);
    }

    /** "COURSES of one call are one". */
    private static void coursesAreOneAct() {
        SaltTable x = Check.table(RICH);
        String before = Seen.of(x);
        x.courses(100);
        Check.due("one act", 1, () -> x.count(13));
        x.undo();
        Check.same("all hundred are undone", before, Seen.of(x));
        x.courses(1);
        x.courses(1);
        Check.due("two of two calls", 2, () -> x.count(13));
    }

    /** An act that changes nothing is one all the same: no sentence takes it out. */
    private static void actsWithoutChange() {
        SaltTable x = Check.table("diner taste 1 at 0;cellar a grains 200 at 3");
        x.pass(0, 3);
        x.knock(0);
        x.fill(0, 1);
        x.change(5, 6);
        x.diet(0, false);
        x.sweet(0, false);
        Check.due("six acts", 6, () -> x.count(13));
    }

    /** "(but for the TAPE, fault(), THE IMAGE)". */
    private static void undoneButForSome() {
        SaltTable x = Check.table(RICH);
        x.courses(1);
        Check.feedText(x, "take 1;set");
        Check.noArgument("a wrong law", x::law);
        x.image();
        String kept = Seen.of(x);
        Check.feedText(x, "damp 1");
        x.undo();
        Check.same("the tape stays", "6", "" + Seen.tape(x));
        Check.due("fault stays", 10, x::fault);
        Check.due("the image stays", true, x::back);
        Check.same("as it was kept", kept, Seen.of(x));
        SaltTable y = Check.table(RICH);
        y.courses(5);
        y.seed(77);
        y.undo();
        Check.same("a seed put in behind the act does not stay", "1", "" + Seen.seed(y));
    }

    /** "A text, going back: none are remembered." */
    private static void textsForget() {
        SaltTable x = Check.table(RICH);
        for (int i = 0; i < 3; i++) {
            x.courses(1);
            x.knock(0);
            if (i == 0) {
                Check.feedText(x, " ");
                x.table();
            } else if (i == 1) {
                x.law();
            } else {
                x.image();
                Check.due("an image forgets none", 2, () -> x.count(13));
                x.back();
            }
            Check.due("none are remembered " + i, 0, () -> x.count(13));
            Seen.unmoved("none can be undone " + i, false, x, x::undo);
            x.knock(1);
            Check.due("the next one is", 1, () -> x.count(13));
            Check.due("and undone", true, x::undo);
        }
    }

    private static void refusedDoNotForget() {
        SaltTable x = Check.table("", "", "", "", "", "", "", "", "", "", "", RICH);
        x.courses(1);
        for (String text : List.of("x", "", "damp 5")) {
            Check.feedText(x, text);
            Check.answer(x::table);
            Check.due("a refused text of the table", 1, () -> x.count(13));
        }
        Check.feedText(x, "x");
        Check.noArgument("a wrong law", x::law);
        Check.due("of the law", 1, () -> x.count(13));
        Seen.unmoved("going back to none", false, x, x::back);
        Check.rows(x, 0, 0, 90);
        x.bribes(false);
        Check.due("rows are no text", 1, () -> x.count(13));
        x.ask(1);
        Check.due("nor are those of ask", true, x::undo);
    }

    /** "false, and nothing happens, if none was kept." */
    private static void imageOfNothing() {
        SaltTable x = Check.table(RICH);
        x.courses(3);
        Check.feedText(x, "abc");
        Seen.unmoved("none was kept", false, x, x::back);
        x.image();
        Check.due("one was kept", true, x::back);
    }

    /** "THE IMAGE (one) of all may be kept, and gone back to". */
    private static void oneImage() {
        SaltTable x = Check.table(RICH);
        x.image();
        x.courses(7);
        x.seed(99);
        String second = Seen.of(x);
        x.image();
        Check.law(x, "take 5");
        Check.feedText(x, "diner taste 9 at 7;cellar f grains 9 at 7;spill 99;damp 98;course 9;sweet 9");
        x.table();
        for (int i = 0; i < 3; i++) {
            act(x, 2 * i);
            x.courses(60);
            Check.due("back, time " + i, true, x::back);
            Check.same("the second took the first one's place, time " + i, second, Seen.of(x));
        }
    }

    /** "(but for the TAPE, fault() and THE IMAGE itself)". */
    private static void imageButForSome() {
        SaltTable x = Check.table(RICH);
        Check.feedText(x, "diner");
        x.image();
        Check.due("an image has no tape", 5, () -> Seen.tape(x));
        Check.noArgument("wrong", x::table);
        Check.feedText(x, "take 1");
        Check.due("back", true, x::back);
        Check.same("the tape is as it was ahead of going back", "6", "" + Seen.tape(x));
        Check.due("fault, too", 5, x::fault);
        Check.due("the image is still kept", true, x::back);
        Check.due("the tape is that law", 1, x::law);
        x.back();
        Check.due("which the image has not", -1, () -> x.count(3));
        Check.due("fault does not go back", -1, x::fault);
    }

    private static void imageOfANewObject() {
        SaltTable x = new SaltTable();
        String nothing = Seen.of(x);
        x.image();
        Check.feedText(x, RICH);
        x.table();
        Check.law(x, "take 2");
        x.courses(50);
        Check.due("back", true, x::back);
        Check.same("a table of nobody", nothing, Seen.of(x));
        Check.noIndex("no diner", () -> x.diner(0, 0));
        Check.noIndex("no cellar", () -> x.cellar(0, 0));
        Check.feedText(x, "diner taste 1 at 0;cellar a grains 9 at 0");
        Check.due("told anew", 1, x::table);
        Check.due("it has nothing of the one before", 0, () -> x.diner(0, 4));
        Check.due("no law of the one before", 1, () -> x.cellar(0, 6));
    }

    /** "3 LINES of THE LAW (NONE without one)"; "NONE for another what." */
    private static void counts() {
        SaltTable x = new SaltTable();
        Check.due("without a law", -1, () -> x.count(3));
        x.law();
        Check.due("with one of no line", 0, () -> x.count(3));
        Check.due("the last what", 0, () -> x.count(13));
        Check.due("behind the last", -1, () -> x.count(14));
        for (int what : FAR_OUT) {
            Check.due("count of " + what, -1, () -> x.count(what));
        }
        SaltTable y = Check.table("diner taste 1 at 0;cellar a grains 200 at 1;cellar a grains 200 at 2;cellar a grains 200 at 3;"
                + "cellar a grains 200 at 4;cellar a grains 200 at 5");
        Check.due("all grains", 1000, () -> y.count(10));
        Check.due("whole", 1000, y::whole);
    }
}
