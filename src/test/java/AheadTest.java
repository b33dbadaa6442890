/** Promises 18 to 26, 39 and 40: what lies ahead, without spills and damp. */
public final class AheadTest {
    private static final String TWO = "diner taste 3 at 0;diner taste 5 at 1;cellar a grains 10 at 0;spill 100;damp 100";

    public static void main(String[] args) {
        frees();
        all();
        takes();
        keenest();
        goesAndAhead();
        swap();
        fewest();
        meets();
        least();
        nothingStays();
        Check.ends("AheadTest");
    }

    private static void frees() {
        SaltTable x = Check.table(TWO + ";cellar b grains 1 at 9 step 5");
        Check.due("3, 5, then 2", 11, () -> x.frees(0));
        Check.due("never at a diner", -1, () -> x.frees(1));
        Check.noIndex("no cellar", () -> x.frees(2));
        Check.noIndex("no cellar below", () -> x.frees(-1));
        SaltTable y = Check.table("diner taste 1 at 0;cellar a grains 20 at 1;cellar a grains 21 at 0");
        Check.due("in 200", 200, () -> y.frees(0));
        Check.due("in 201", -1, () -> y.frees(1));
        SaltTable z = Check.table("diner taste 1 at 0;cellar a grains 1 at 0");
        z.courses(1);
        Check.due("free already", 0, () -> z.frees(0));
        // The course and the seat meet but once in 60 courses.
        SaltTable w = Check.law(Check.table("diner taste 0 at 9;cellar a grains 1 at 0"), "take 1 if 1>course");
        Check.due("seat 9 never in course 0", -1, () -> w.frees(0));
        SaltTable v = Check.law(Check.table("diner taste 0 at 0;cellar a grains 2 at 1;course 1"), "take 1 if course>10");
        Check.due("odd courses at even seats", -1, () -> v.frees(0));
        SaltTable u = Check.law(Check.table("diner taste 0 at 0;cellar a grains 2 at 2;course 1"), "take 1 if 1>course");
        Check.due("never either: course n + 1, seat n + 2", -1, () -> u.frees(0));
        SaltTable t = Check.law(Check.table("diner taste 0 at 0;cellar a grains 3 at 2;course 2"), "take 1 if course > 9 and 11 > course");
        Check.due("course 10 at seat 0 every 60 courses", 129, () -> t.frees(0));
    }

    private static void all() {
        SaltTable x = Check.table("diner taste 5 at 0;cellar a grains 10 at 0;cellar a grains 1 at 8");
        Check.due("the latest", 11, x::all);
        Check.due("held", 3, x::held);
        x.courses(3);
        Check.due("held then", 1, x::held);
        x.courses(8);
        Check.due("all are free", 0, x::all);
        Check.due("none is held", 0, x::held);
        SaltTable y = Check.table("cellar a grains 1 at 8");
        Check.due("none", -1, y::all);
    }

    private static void takes() {
        SaltTable x = Check.table(TWO);
        int[][] wants = {{0, 0, 0}, {0, 1, 3}, {1, 1, 0}, {1, 2, 5}, {0, 10, 3}, {0, 11, 5}, {0, 200, 5}, {1, 200, 5}};
        for (int[] want : wants) {
            Check.due("takes " + want[0] + " in " + want[1], want[2], () -> x.takes(want[0], want[1]));
        }
        Check.noIndex("no diner", () -> x.takes(2, 300));
        Check.noArgument("too many", () -> x.takes(0, 201));
        Check.noArgument("below", () -> x.takes(0, -1));
    }

    private static void keenest() {
        SaltTable x = Check.table(TWO);
        int[][] wants = {{0, 0}, {1, 0}, {2, 1}, {10, 1}, {11, 0}, {200, 0}};
        for (int[] want : wants) {
            Check.due("keenest in " + want[0], want[1], () -> x.keenest(want[0]));
        }
        Check.noArgument("too many", () -> x.keenest(201));
        Check.noArgument("below", () -> x.keenest(-1));
    }

    private static void goesAndAhead() {
        SaltTable x = Check.table(TWO + ";cellar b grains 1 at 9 step 7");
        Check.due("goes 0", 9, () -> x.goes(1, 0));
        Check.due("goes 1", 6, () -> x.goes(1, 1));
        Check.due("goes 200", 9, () -> x.goes(1, 200));
        Check.due("goes 199", 2, () -> x.goes(1, 199));
        Check.noArgument("goes too far", () -> x.goes(1, 201));
        Check.noArgument("goes below", () -> x.goes(1, -1));
        Check.noIndex("goes of none", () -> x.goes(2, 0));
        int[][] wants = {{0, 10}, {1, 7}, {2, 2}, {10, 2}, {11, 0}, {200, 0}};
        for (int[] want : wants) {
            Check.due("ahead by " + want[0], want[1], () -> x.ahead(0, want[0]));
        }
        Check.noArgument("ahead too far", () -> x.ahead(0, 201));
        Check.noArgument("ahead below", () -> x.ahead(0, -1));
        Check.noIndex("ahead of none", () -> x.ahead(2, -1));
    }

    private static void swap() {
        SaltTable x = Check.table("diner taste 3 at 0;diner taste 5 at 5;cellar a grains 8 at 0");
        Check.due("by 2 and not 6", 15, x::swap);
        SaltTable y = Check.table("diner taste 8 at 3;diner taste 8 at 4;cellar a grains 8 at 0");
        Check.due("the least of several", 3, y::swap);
        SaltTable z = Check.table("diner taste 1 at 1;cellar a grains 1 at 0 step 2");
        Check.due("from none", 1, z::swap);
        SaltTable w = Check.table(TWO);
        Check.due("none is sooner", -1, w::swap);
        SaltTable v = Check.table("diner taste 0 at 1;cellar a grains 1 at 0");
        Check.due("none at all", -1, v::swap);
        SaltTable u = Check.table("diner taste 1 at 8;diner taste 9 at 7;cellar a grains 9 at 9");
        Check.due("greater seats", 79, u::swap);
        SaltTable t = Check.table("diner taste 1 at 8;diner taste 9 at 7;cellar a grains 9 at 9;cellar b grains 1 at 1");
        Check.due("two cellars: by 3 and not 9", 17, t::swap);
    }

    private static void fewest() {
        SaltTable x = Check.table("diner taste 3 at 0 diet;diner taste 5 at 1;diner taste 8 at 2 diet;cellar a grains 8 at 0");
        Check.due("the two first by 2", 3, () -> x.fewest(0, 2));
        Check.due("one by 3", 4, () -> x.fewest(0, 3));
        Check.due("none by 1", -1, () -> x.fewest(0, 1));
        Check.due("by 12 still one", 2, () -> x.fewest(0, 12));
        Check.due("by 24 in three pinches", 1, () -> x.fewest(0, 24));
        Check.noArgument("too far", () -> x.fewest(0, 25));
        Check.noArgument("below", () -> x.fewest(0, -1));
        Check.noIndex("no cellar", () -> x.fewest(1, 25));
        SaltTable y = Check.table("diner taste 3 at 0;diner taste 5 at 1;cellar b grains 90 at 7;cellar a grains 8 at 0");
        Check.due("all of them, for the second cellar", 3, () -> y.fewest(1, 2));
        Check.due("not for the first", -1, () -> y.fewest(0, 2));
        Check.law(x, "take 3 if diet");
        Check.due("nobody", 0, () -> x.fewest(0, 3));
        x.courses(3);
        Check.due("free already", 0, () -> x.fewest(0, 0));
        Check.due("diets are as they were", 5, () -> x.count(11));
    }

    private static void meets() {
        SaltTable x = Check.table("diner taste 0 at 1;diner taste 9 at 0;diner taste 0 at 9;cellar a grains 9 at 0;"
                + "cellar a grains 50 at 0 step 5;cellar a grains 50 at 0 step 3");
        Check.due("step 3 comes to 1 behind 7", 4, () -> x.meets(0));
        Check.due("at once", 7, () -> x.meets(1));
        Check.due("freed at 0, so not at 9", 4, () -> x.meets(2));
        Check.noIndex("no diner", () -> x.meets(3));
        Check.noIndex("no diner below", () -> x.meets(-1));
        SaltTable y = Check.table("diner taste 0 at 0;cellar a grains 9 at 9 step 9;cellar a grains 9 at 1;sweet 0");
        Check.due("behind 9 and behind 9", 3, () -> y.meets(0));
    }

    private static void least() {
        SaltTable x = Check.table(TWO);
        Check.due("least of 0", 0, () -> x.least(0));
        Check.due("least of 1", 0, () -> x.least(1));
        Check.due("least of 2", 2, () -> x.least(2));
        Check.due("the first of several", 2, () -> x.least(60));
        SaltTable y = Check.table("diner taste 3 at 0;diner taste 2 at 1;cellar a grains 50 at 0");
        Check.due("2 are fewer than 3", 1, () -> y.least(1));
        Check.noArgument("too many", () -> x.least(61));
        Check.noArgument("below", () -> x.least(-1));
    }

    private static void nothingStays() {
        SaltTable x = Check.table(TWO);
        x.frees(0);
        x.all();
        x.takes(0, 9);
        x.keenest(9);
        x.swap();
        x.fewest(0, 9);
        x.meets(0);
        x.least(9);
        Check.due("grains", 10, () -> x.cellar(0, 2));
        Check.due("course", 0, () -> x.count(4));
        Check.due("seat", 0, () -> x.diner(0, 0));
        Check.due("has", 0, () -> x.has(0, 0));
        Check.due("log", 0, () -> x.count(12));
        Check.due("acts", 0, () -> x.count(13));
        Check.due("seed", 1, () -> x.seed(1));
    }
}
