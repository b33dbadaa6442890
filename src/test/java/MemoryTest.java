/** Promises 41 to 49: trials and spans, the log, the seed, acts undone, the image, counts. */
public final class MemoryTest {
    public static void main(String[] args) {
        trial();
        span();
        spanSeeds();
        led();
        log();
        logUndone();
        seed();
        undo();
        undoneInAll();
        forgotten();
        image();
        count();
        Check.ends("MemoryTest");
    }

    /** From SEED 1 the draws modulo 100 are 38, 58, 13, 15, 51, 27, 10, 19, 12, 86. */
    private static void trial() {
        SaltTable x = Check.table("cellar a grains 3 at 0;spill 39");
        int[] spilt = {0, 1, 2, 2, 3, 3};
        for (int n = 0; n < spilt.length; n++) {
            int courses = n;
            Check.due("spilt by " + n, spilt[n], () -> x.trial(courses, false));
            Check.due("held by " + n, spilt[n] == 3 ? 0 : 1, () -> x.trial(courses, true));
        }
        Check.due("nothing stays", 3, () -> x.cellar(0, 2));
        Check.due("no draw stays", 1, () -> x.seed(1));
        Check.due("no course stays", 0, () -> x.count(4));
        x.courses(2);
        Check.due("what was spilt counts", 3, () -> x.trial(200, false));
        Check.noArgument("too many", () -> x.trial(201, false));
        Check.noArgument("below", () -> x.trial(-1, true));
        SaltTable y = Check.table("diner taste 5 at 0;cellar a grains 9 at 0;damp 100");
        y.trial(20, true);
        Check.due("no log of it", 0, () -> y.count(12));
        Check.due("nobody has any of it", 0, () -> y.has(0, 0));
        Check.due("set by damp is part of it", 1, () -> y.trial(100, true));
        Check.due("but not of what is ahead", 0, () -> y.ahead(0, 11));
    }

    private static void span() {
        SaltTable x = Check.table("cellar a grains 3 at 0;spill 39");
        int least = 99;
        int most = 0;
        for (int seed = 1; seed <= 6; seed++) {
            int drawn = 1103515245 * seed + 12345;
            int spilt = (drawn >>> 16 & 32767) % 100 < 39 ? 1 : 0;
            least = Math.min(least, spilt);
            most = Math.max(most, spilt);
        }
        x.seed(77);
        Check.due("least of 1", least, () -> x.span(1, false));
        Check.due("most of 1", most, () -> x.span(1, true));
        Check.due("of 0", 0, () -> x.span(0, true));
        Check.due("all in 200", 3, () -> x.span(200, false));
        Check.due("the seed stays", 77, () -> x.seed(1));
        Check.due("nothing stays", 3, () -> x.cellar(0, 2));
        Check.noArgument("too many", () -> x.span(201, true));
        Check.noArgument("below", () -> x.span(-1, true));
    }

    /** The first spill draws modulo 100 from SEED 1 to 6, with one cellar, are 38, 8, 47, 17, 55, 26. */
    private static void spanSeeds() {
        Check.due("all six spill below 60, a seventh would not", 1, () -> spillingTable(60).span(1, false));
        Check.due("none spills below 8, SEED 0 would", 0, () -> spillingTable(8).span(1, true));
        Check.due("SEED 1 spills the most below 14", 3, () -> spillingTable(14).span(5, true));
        Check.due("SEED 6 alone spills none below 25", 0, () -> spillingTable(25).span(6, false));
        Check.due("and others three", 3, () -> spillingTable(25).span(6, true));
    }

    private static SaltTable spillingTable(int spill) {
        return Check.table("cellar a grains 10 at 0;spill " + spill);
    }

    private static void led() {
        SaltTable x = Check.table("diner taste 1 at 0;cellar a grains 9 at 0;cellar a grains 9 at 0;cellar b grains 9 at 3 step 5;course 11");
        x.courses(11);
        Check.due("rows", 2, () -> x.led(0, false));
        Check.due("its latest dinner", 1, () -> x.led(0, true));
        Check.due("none", 0, () -> x.led(2, false));
        Check.due("no dinner", -1, () -> x.led(2, true));
        Check.noIndex("no cellar", () -> x.led(3, true));
        Check.noIndex("no cellar below", () -> x.led(-1, false));
    }

    private static void log() {
        SaltTable x = Check.table("diner taste 2 at 3;diner taste 4 at 0;cellar a grains 9 at 0;cellar b grains 5 at 3;course 11");
        x.courses(4);
        int[][] rows = {{1, 2, 0, 0, 2}, {0, 11, 0, 1, 2}, {0, 11, 1, 0, 4}};
        for (int ago = 0; ago < 3; ago++) {
            for (int what = 0; what < 5; what++) {
                int a = ago;
                int w = what;
                Check.due("log " + ago + " " + what, rows[ago][what], () -> x.log(a, w));
            }
        }
        Check.due("three rows", 3, () -> x.count(12));
        Check.due("none ago", -1, () -> x.log(3, 0));
        Check.due("none below", -1, () -> x.log(-1, 0));
        Check.noElement("no what", () -> x.log(0, 5));
        Check.noElement("no what, no row", () -> x.log(9, -1));
        SaltTable y = Check.table("diner taste 1 at 0;" + "cellar a grains 100 at 0;".repeat(4) + "cellar a grains 100 at 0");
        for (int i = 0; i < 13; i++) {
            for (int c = 0; c < 5; c++) {
                y.pass(c, 0);
            }
            y.courses(1);
        }
        Check.due("60 at most", 60, () -> y.count(12));
        Check.due("the latest", 4, () -> y.log(0, 3));
        Check.due("of dinner 1", 1, () -> y.log(0, 0));
        Check.due("the oldest of course 1", 1, () -> y.log(59, 1));
        Check.due("none older", -1, () -> y.log(60, 1));
        Check.due("twelve of each", 12, () -> y.led(3, false));
    }

    /** Rows that others took the place of come back, too. */
    private static void logUndone() {
        SaltTable x = Check.table("diner taste 1 at 0;" + "cellar a grains 200 at 0;".repeat(4) + "cellar a grains 200 at 0");
        x.courses(100);
        x.courses(30);
        Check.due("sixty rows", 60, () -> x.count(12));
        Check.due("the oldest row is of course 10", 10, () -> x.log(59, 1));
        Check.due("and of dinner 0", 0, () -> x.log(59, 0));
        x.courses(50);
        Check.due("the oldest row is of course 0", 0, () -> x.log(59, 1));
        Check.due("and of dinner 5", 5, () -> x.log(59, 0));
        x.undo();
        Check.due("the oldest row is of course 10 again", 10, () -> x.log(59, 1));
        Check.due("and of dinner 0 again", 0, () -> x.log(59, 0));
        SaltTable y = Check.table("diner taste 1 at 0;cellar a grains 200 at 0;cellar b grains 200 at 5");
        y.courses(1);
        y.image();
        y.undo();
        y.pass(1, 0);
        y.pass(0, 5);
        y.courses(1);
        Check.due("a row of cellar 1", 1, () -> y.log(0, 3));
        y.back();
        Check.due("a row of cellar 0 again", 0, () -> y.log(0, 3));
    }

    private static void seed() {
        SaltTable x = Check.table("cellar a grains 9 at 0;spill 100");
        Check.due("1 at first", 1, () -> x.seed(-7));
        Check.due("as it was put", -7, () -> x.seed(0));
        x.courses(1);
        int once = 12345;
        Check.due("two draws from 0", once * 1103515245 + 12345, () -> x.seed(1));
    }

    private static void undo() {
        SaltTable x = Check.table("diner taste 3 at 0;cellar a grains 9 at 0 set 1;spill 50;damp 50;sweet 3");
        x.pass(0, 4);
        x.knock(0);
        x.fill(0, 5);
        x.change(0, 4);
        x.diet(0, true);
        x.sweet(3, false);
        x.courses(40);
        Check.due("seven acts", 7, () -> x.count(13));
        Check.due("courses undone", true, x::undo);
        Check.due("dinner", 0, () -> x.count(5));
        Check.due("grains", 14, () -> x.cellar(0, 2));
        Check.due("spilt", 0, () -> x.count(9));
        Check.due("seed", 1, () -> x.seed(1));
        Check.due("not sweet yet", 0, () -> x.count(6));
        x.undo();
        Check.due("sweet again", 8, () -> x.count(6));
        x.undo();
        Check.due("no diet", 0, () -> x.count(11));
        x.undo();
        Check.due("seat", 0, () -> x.diner(0, 0));
        x.undo();
        Check.due("not filled", 9, () -> x.cellar(0, 2));
        x.undo();
        Check.due("set", 1, () -> x.cellar(0, 3));
        Check.due("the first one", true, x::undo);
        Check.due("place", 0, () -> x.cellar(0, 0));
        Check.due("no more", false, x::undo);
        Check.due("none can be", 0, () -> x.count(13));
    }

    private static void undoneInAll() {
        SaltTable x = Check.table("diner taste 3 at 0;cellar a grains 9 at 0");
        for (int i = 0; i < 14; i++) {
            x.pass(0, i % 10);
        }
        Check.due("12 are remembered", 12, () -> x.count(13));
        for (int i = 0; i < 12; i++) {
            x.undo();
        }
        Check.due("the thirteenth is not", false, x::undo);
        Check.due("as behind the second", 1, () -> x.cellar(0, 0));
        x.pass(0, 0);
        x.courses(1);
        x.seed(9);
        x.undo();
        Check.due("the seed, too, is as ahead of it", 1, () -> x.seed(1));
        Check.due("the log, too", 0, () -> x.count(12));
        Check.due("the taking, too", 0, () -> x.has(0, 0));
        x.feed(0, 0, 0, 0, 0);
        x.undo();
        Check.due("but not the tape", true, () -> x.end(20));
        Check.noArgument("a call that throws", () -> x.fill(0, 0));
        Check.noIndex("another one", () -> x.pass(0, 10));
        Check.due("is no act", 0, () -> x.count(13));
    }

    private static void forgotten() {
        SaltTable x = Check.table("cellar a grains 9 at 0");
        x.pass(0, 5);
        x.image();
        Check.due("an image forgets nothing", 1, () -> x.count(13));
        Check.feedText(x, "x");
        Check.noArgument("nor does a wrong text", x::table);
        Check.due("an act is remembered", 1, () -> x.count(13));
        Check.feedText(x, "");
        x.law();
        Check.due("a law forgets", false, x::undo);
        x.pass(0, 5);
        x.table();
        Check.due("a text forgets", 0, () -> x.count(13));
        x.pass(0, 5);
        x.back();
        Check.due("going back forgets", false, x::undo);
    }

    private static void image() {
        SaltTable x = Check.law(Check.table("diner taste 3 at 0;cellar a grains 9 at 0"), "take 1");
        Check.due("none was kept", false, x::back);
        x.courses(1);
        x.seed(5);
        x.image();
        x.courses(9);
        x.diet(0, true);
        Check.law(x, "take 2;take 3");
        Check.feedText(x, "damp 7;diner taste 1 at 1");
        x.table();
        x.feed(0, 0, 0, 0, 0);
        Check.due("back", true, x::back);
        int[] counts = {1, 1, 1, 1, 1, 0, 0, 0, 0, 0, 5, 0, 1, 0};
        for (int what = 0; what < counts.length; what++) {
            int w = what;
            Check.due("count " + what + " of the image", counts[what], () -> x.count(w));
        }
        Check.due("seed of the image", 5, () -> x.seed(8));
        Check.due("the tape is not of it", true, () -> x.end(20));
        x.pass(0, 0);
        Check.due("its law", 4, () -> x.cellar(0, 6));
        Check.due("back again", true, x::back);
        Check.due("seed of the image again", 5, () -> x.seed(8));
    }

    private static void count() {
        SaltTable x = Check.table("diner taste 3 at 0;diner taste 1 at 1 diet;cellar a grains 9 at 0;cellar b grains 8 at 4;sweet 2;"
                + "spill 100;damp 4;course 11");
        x.courses(2);
        int[] counts = {2, 2, 1, -1, 1, 1, 4, 100, 4, 4, 10, 2, 1, 1};
        for (int what = 0; what < counts.length; what++) {
            int w = what;
            Check.due("count " + what, counts[what], () -> x.count(w));
        }
        Check.due("another", -1, () -> x.count(14));
        Check.due("below", -1, () -> x.count(-1));
    }
}
