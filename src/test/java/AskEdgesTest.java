/** The edges that the document names of what is asked of a table ("==== 3.", promises 18 to 42), a sentence each. */
public final class AskEdgesTest {
    private static final String EIGHT = "diner taste 1 at 0;diner taste 1 at 1;diner taste 1 at 2;diner taste 1 at 3;"
            + "diner taste 1 at 4;diner taste 1 at 5;diner taste 1 at 6;diner taste 1 at 7;";

    public static void main(String[] args) {
        freesByTwoHundred();
        allByTwoHundred();
        heldAsBits();
        takesOfTwoHundred();
        keenestOfSeveral();
        goesRound();
        aheadWithoutDraws();
        aheadHasAtMost();
        swapByTwoHundred();
        swapOfSeveral();
        swapOfNone();
        fewestByTwentyFour();
        fewestOfSeveral();
        bribesOfNone();
        bribesOfTwoAtMost();
        bribedTakeNoneAtLeast();
        bribeRowsAtTheirBounds();
        bribeRowsThatAreNone();
        askByTwentyFour();
        askOfFewerThanTwo();
        askOfSeveral();
        worstOfSeveral();
        alikeBySomeOfIt();
        mixedAndShare();
        wholeOfAll();
        sentenceRoundAndRound();
        aloneByTwoHundred();
        fairOfFew();
        gameWithoutACellar();
        gameOfEquals();
        crowdOfSeveral();
        gapsAsBits();
        meetsOfTwelve();
        leastOfSixty();
        trialOfTwoHundred();
        spanOfSixSeeds();
        Check.ends("AskEdgesTest");
    }

    /** A diner and a cellar behind a course that frees it, the cellar back at the diner. */
    private static SaltTable freed() {
        SaltTable x = Check.table("diner taste 3 at 0;cellar a grains 3 at 0");
        x.courses(1);
        x.pass(0, 0);
        return x;
    }

    /** "FREES of a CELLAR: the first N (0 to 200) AHEAD by which it is FREE; none." */
    private static void freesByTwoHundred() {
        SaltTable x = Check.table("diner taste 1 at 0;cellar a grains 20 at 1;cellar b grains 20 at 0;cellar c grains 21 at 0;"
                + "cellar d grains 1 at 0;cellar e grains 1 at 1 step 2");
        Check.due("by 200", 200, () -> x.frees(0));
        Check.due("by 191", 191, () -> x.frees(1));
        Check.due("by 201 is none", -1, () -> x.frees(2));
        Check.due("by 1", 1, () -> x.frees(3));
        Check.due("never", -1, () -> x.frees(4));
        Check.due("free now", 0, () -> freed().frees(0));
        SaltTable y = Check.table("diner taste 1 at 0;cellar a grains 20 at 1;course 11");
        y.sweet(8, true);
        Check.due("one course of it is sweet: by 200 it is not any more", -1, () -> y.frees(0));
        // Course 10 comes to seat 0 behind 8 courses, and then every 60.
        SaltTable z = Check.law(Check.table("diner taste 0 at 0;cellar a grains 4 at 2;course 2"),
                "take 1 if course > 9 and 11 > course");
        Check.due("seats and courses meet once in 60", 189, () -> z.frees(0));
        Check.due("so they do for all", 189, z::all);
        z.fill(0, 1);
        Check.due("and not five times in 200", -1, () -> z.frees(0));
        SaltTable w = Check.law(Check.table("diner taste 0 at 0;cellar a grains 1 at 1"), "take 1 if course > 10");
        Check.due("in the last of the first 60", 60, () -> w.frees(0));
        Check.due("as for all", 60, w::all);
    }

    /** "ALL: the first N (0 to 200) AHEAD by which all are FREE; none." */
    private static void allByTwoHundred() {
        Check.due("without cellars", 0, () -> Check.table("diner taste 1 at 0").all());
        Check.due("free now", 0, () -> freed().all());
        SaltTable x = Check.table("diner taste 1 at 0;cellar a grains 20 at 1;cellar b grains 20 at 0");
        Check.due("by 200", 200, x::all);
        x.fill(1, 1);
        Check.due("by 201 is none", -1, x::all);
        SaltTable y = Check.table("diner taste 1 at 0;cellar a grains 1 at 0;cellar b grains 1 at 1 step 2");
        Check.due("one never", -1, y::all);
    }

    /** "HELD: CELLARS that are not FREE, as bits." */
    private static void heldAsBits() {
        Check.due("without cellars", 0, () -> new SaltTable().held());
        SaltTable x = Check.table("diner taste 1 at 0;cellar a grains 1 at 0;cellar a grains 2 at 0;cellar a grains 1 at 0;"
                + "cellar a grains 2 at 0;cellar a grains 1 at 1");
        Check.due("all five", 31, x::held);
        x.courses(1);
        Check.due("two were freed", 26, x::held);
        Check.due("free", 0, () -> freed().held());
    }

    /** "TAKES of a DINER in N COURSES (0 to 200) AHEAD: how much it takes together." */
    private static void takesOfTwoHundred() {
        SaltTable x = Check.table("diner taste 1 at 0;cellar a grains 200 at 1;cellar b grains 200 at 1");
        int[][] wants = {{0, 0}, {9, 0}, {10, 2}, {199, 38}, {200, 40}};
        for (int[] want : wants) {
            Check.due("takes in " + want[0], want[1], () -> x.takes(0, want[0]));
        }
        SaltTable y = CourseEdgesTest.nearlyFull();
        y.fill(0, 200);
        Check.due("it takes more than it can have", 200, () -> y.takes(0, 1));
    }

    /** "KEENEST of N: the DINER who TAKES the most (of several the least; none)." */
    private static void keenestOfSeveral() {
        SaltTable x = Check.table("diner taste 1 at 5;diner taste 1 at 0;cellar a grains 200 at 6");
        int[][] wants = {{0, 0}, {4, 0}, {5, 1}, {9, 1}, {10, 0}, {199, 1}, {200, 0}};
        for (int[] want : wants) {
            Check.due("keenest in " + want[0], want[1], () -> x.keenest(want[0]));
        }
        Check.due("none without diners", -1, () -> Check.table("cellar a grains 200 at 6").keenest(200));
        Check.due("of eight the last", 7, () -> Check.table(EIGHT + "cellar a grains 9 at 7 step 9").keenest(1));
    }

    /** "GOES of a CELLAR in N COURSES AHEAD: the SEAT where it is then." */
    private static void goesRound() {
        SaltTable x = Check.table("cellar a grains 1 at 9;cellar a grains 1 at 1 step 9;cellar a grains 1 at 0 step 5");
        int[][] wants = {{0, 0, 9}, {0, 1, 0}, {0, 199, 8}, {0, 200, 9}, {1, 0, 1}, {1, 1, 0}, {1, 2, 9}, {1, 199, 2}, {1, 200, 1},
            {2, 1, 5}, {2, 2, 0}};
        for (int[] want : wants) {
            Check.due("goes " + want[0] + " in " + want[1], want[2], () -> x.goes(want[0], want[1]));
        }
        SaltTable y = freed();
        Check.due("a free one goes, too", 7, () -> y.goes(0, 7));
    }

    /** "AHEAD by N COURSES (0 to 200): as so many COURSES without (b), (c) (no DRAWS)." */
    private static void aheadWithoutDraws() {
        SaltTable x = Check.table("diner taste 1 at 0;cellar a grains 200 at 1;spill 100;damp 100");
        int[][] wants = {{0, 200}, {9, 200}, {10, 199}, {199, 181}, {200, 180}};
        for (int[] want : wants) {
            Check.due("ahead by " + want[0], want[1], () -> x.ahead(0, want[0]));
        }
        Check.same("no draws", "1", "" + Seen.seed(x));
        SaltTable y = Check.table("diner taste 1 at 0;cellar a grains 9 at 0;sweet 10");
        Check.due("courses go on, and a sweet one comes", 8, () -> y.ahead(0, 20));
        Check.due("and goes by", 7, () -> y.ahead(0, 21));
        Check.due("free stays free", 0, () -> freed().ahead(0, 200));
    }

    /** HAS is 999 at most ahead, too, and for one alone. */
    private static void aheadHasAtMost() {
        SaltTable x = CourseEdgesTest.nearlyFull();
        x.fill(0, 8);
        Check.law(x, "spare 30 if has > 999");
        Check.due("two pinches of 4", 11, () -> x.frees(0));
        Check.due("two of one alone", 2, () -> x.alone(0, 0));
        Check.law(x, "spare 30 if has > 998");
        Check.due("998 is not above, 999 is", -1, () -> x.frees(0));
        Check.due("so it is alone", -1, () -> x.alone(0, 0));
    }

    /** "SWAP: the two SEATS by changing which about ALL would be the soonest": by 200 at most, from none too. */
    private static void swapByTwoHundred() {
        SaltTable x = Check.table("diner taste 1 at 1;cellar a grains 100 at 0 step 5;cellar b grains 100 at 5 step 5");
        Check.due("none now", -1, x::all);
        Check.due("at seat 0 by 200", 1, x::swap);
        x.change(0, 1);
        Check.due("by 200 now", 200, x::all);
        Check.due("at seat 5 by 200, too, which is not sooner", -1, x::swap);
        SaltTable y = Check.table("diner taste 1 at 1;cellar a grains 101 at 0 step 5;cellar b grains 100 at 5 step 5");
        Check.due("by 201 is none", -1, y::swap);
    }

    /** "10 times the lesser and the greater one (of several the least ...)". */
    private static void swapOfSeveral() {
        Check.due("the greatest", 89, () -> Check.table("diner taste 1 at 8;cellar a grains 1 at 9 step 9").swap());
        Check.due("the least", 1, () -> Check.table("diner taste 1 at 1;cellar a grains 1 at 0 step 9").swap());
        Check.due("the least of three alike", 2,
                () -> Check.table("diner taste 1 at 2;diner taste 1 at 3;diner taste 1 at 7;cellar a grains 1 at 0").swap());
        Check.due("the soonest ahead of the least", 3,
                () -> Check.table("diner taste 1 at 2;diner taste 2 at 3;cellar a grains 2 at 0 step 9").swap());
        Check.due("two diners change about", 15,
                () -> Check.table("diner taste 3 at 0;diner taste 1 at 1;diner taste 5 at 5;cellar a grains 8 at 0;"
                        + "cellar b grains 1 at 5").swap());
    }

    /** "none, if no two make it sooner than it is". */
    private static void swapOfNone() {
        Check.due("nobody", -1, () -> Check.table("cellar a grains 1 at 0").swap());
        Check.due("no cellar", -1, () -> Check.table("diner taste 1 at 0").swap());
        Check.due("free now", -1, () -> freed().swap());
        Check.due("by 1 is the soonest", -1, () -> Check.table("diner taste 1 at 0;cellar a grains 1 at 0").swap());
        Check.due("no taste", -1, () -> Check.table("diner taste 0 at 1;cellar a grains 1 at 0").swap());
    }

    /** "so that it is FREE by N COURSES (0 to 24) AHEAD ...; none." */
    private static void fewestByTwentyFour() {
        SaltTable x = Check.table("diner taste 1 at 3;cellar a grains 3 at 0;cellar a grains 1 at 3;cellar a grains 4 at 0");
        Check.due("by 24", 1, () -> x.fewest(0, 24));
        Check.due("not by 23", -1, () -> x.fewest(0, 23));
        Check.due("by 1", 1, () -> x.fewest(1, 1));
        Check.due("not by 0", -1, () -> x.fewest(1, 0));
        Check.due("not by 24", -1, () -> x.fewest(2, 24));
        Check.due("free by 0, by nobody", 0, () -> freed().fewest(0, 0));
        Check.due("free by 24, by nobody", 0, () -> freed().fewest(0, 24));
        Check.due("there are none", -1, () -> Check.table("cellar a grains 3 at 0").fewest(0, 24));
    }

    /** "the fewest DINERS (these being on no DIET, all the others on a DIET, whatever they are now)", "the least as bits". */
    private static void fewestOfSeveral() {
        SaltTable x = Check.table(EIGHT + "cellar a grains 8 at 0;cellar b grains 2 at 0;cellar c grains 1 at 0");
        Check.due("all eight by 8", 255, () -> x.fewest(0, 8));
        Check.due("not by 7", -1, () -> x.fewest(0, 7));
        Check.due("any two: the least", 3, () -> x.fewest(1, 8));
        Check.due("one twice is fewer", 1, () -> x.fewest(1, 11));
        Check.due("any one: the least", 1, () -> x.fewest(2, 8));
        SaltTable y = Check.table("diner taste 1 at 0 diet;diner taste 1 at 1;diner taste 2 at 2 diet;diner taste 2 at 3;"
                + "cellar a grains 3 at 0");
        Check.due("0 and 2, on a diet as they are", 5, () -> y.fewest(0, 3));
        Check.due("diets stay", 5, () -> y.count(11));
        Check.law(y, "take 3 if diner > 0 and diner < 2 and diet");
        Check.due("by nobody, as the law has it", 0, () -> y.fewest(0, 3));
        Check.law(y, "take 3 if diner < 1;spare 9 if not diet");
        Check.due("one more would take less", 0, () -> y.fewest(0, 1));
    }

    private static void sets(SaltTable x, int many, int sure, int... rows) {
        Check.due("sets", many, () -> Check.rows(x, rows).bribes(false));
        Check.due("sure", sure, () -> Check.rows(x, rows).bribes(true));
    }

    /** "sets of none, one, or two DINERS"; "none may be told"; "SURE: DINERS in all of these, as bits (0 without)". */
    private static void bribesOfNone() {
        sets(new SaltTable(), 1, 0);
        sets(Check.table("cellar a grains 9 at 0"), 1, 0, 0, 24, 9);
        sets(Check.table("cellar a grains 9 at 0"), 0, 0, 0, 24, 8);
        sets(Check.table("diner taste 1 at 0"), 2, 0);
        sets(Check.table("diner taste 1 at 0;diner taste 1 at 1"), 4, 0);
        sets(Check.table("diner taste 1 at 0;diner taste 1 at 1;diner taste 1 at 2"), 7, 0);
        sets(Check.table(EIGHT + "cellar a grains 9 at 0"), 37, 0);
        sets(Check.table(EIGHT + "cellar a grains 9 at 0"), 0, 0, 0, 0, 8);
    }

    /** "at most two DINERS are bribed: each of them takes 1 less than its PINCH". */
    private static void bribesOfTwoAtMost() {
        SaltTable x = Check.table("diner taste 2 at 0;diner taste 2 at 1;diner taste 2 at 2;cellar a grains 20 at 0");
        sets(x, 1, 0, 0, 3, 14);
        sets(x, 3, 0, 0, 3, 15);
        sets(x, 3, 0, 0, 3, 16);
        sets(x, 0, 0, 0, 3, 17);
        sets(x, 1, 3, 0, 2, 18, 0, 3, 16);
        sets(x, 2, 4, 0, 2, 17, 0, 3, 16);
        sets(x, 1, 6, 0, 1, 18, 0, 3, 16);
    }

    /** "takes 1 less than its PINCH (0 at least) from any CELLAR". */
    private static void bribedTakeNoneAtLeast() {
        sets(Check.table("diner taste 0 at 0;cellar a grains 20 at 0"), 2, 0, 0, 1, 20);
        sets(Check.table("diner taste 1 at 0;cellar a grains 20 at 0"), 1, 1, 0, 24, 20);
        SaltTable x = Check.table("diner taste 9 at 0;cellar a grains 1 at 0;cellar b grains 5 at 0");
        sets(x, 1, 1, 0, 1, 1, 1, 1, 1);
        sets(x, 1, 0, 0, 1, 0, 1, 1, 0);
        sets(x, 0, 0, 0, 1, 1, 1, 1, 0);
    }

    /** "a CELLAR, in how many COURSES AHEAD (0 to 24), how many GRAINS"; "(0 to 255)"; "at most 12". */
    private static void bribeRowsAtTheirBounds() {
        SaltTable x = Check.table("diner taste 3 at 0;cellar a grains 20 at 0;cellar a grains 3 at 0;cellar a grains 9 at 5;"
                + "cellar a grains 9 at 6;cellar a grains 200 at 5 step 2");
        sets(x, 2, 0, 0, 0, 20);
        sets(x, 1, 0, 0, 24, 11);
        sets(x, 1, 1, 0, 24, 14);
        sets(x, 1, 0, 1, 1, 0);
        sets(x, 1, 1, 1, 1, 1);
        sets(x, 0, 0, 0, 0, 255);
        sets(x, 0, 0, 0, 0, 0);
        sets(x, 2, 0, 4, 24, 200);
        sets(x, 1, 1, 0, 0, 20, 0, 1, 18, 0, 11, 16, 0, 24, 14);
        sets(x, 0, 0, 0, 0, 20, 0, 1, 18, 0, 11, 16, 0, 24, 15);
        sets(x, 0, 0, 0, 1, 17, 0, 1, 18);
    }

    private static void wrongRows(SaltTable x, int... rows) {
        Check.rows(x, rows);
        Seen.unmovedButTape("bribes of " + rows.length, "throws.IllegalArgumentException", x, () -> x.bribes(false));
        Check.rows(x, rows);
        Seen.unmovedButTape("sure of " + rows.length, "throws.IllegalArgumentException", x, () -> x.bribes(true));
        Check.rows(x, rows);
        Seen.unmovedButTape("ask of " + rows.length, "throws.IllegalArgumentException", x, () -> x.ask(1));
    }

    /** "IllegalArgumentException: the TAPE is not that (there is no such CELLAR; ...)." */
    private static void bribeRowsThatAreNone() {
        SaltTable x = Check.table("diner taste 3 at 0;cellar a grains 9 at 0;cellar b grains 9 at 5");
        sets(x, 2, 0, 1, 0, 9);
        wrongRows(x, 2, 0, 9);
        wrongRows(x, 255, 0, 9);
        wrongRows(x, 0, 25, 9);
        wrongRows(x, 0, 255, 9);
        wrongRows(x, 0, 0, 9, 0, 0, 9, 0, 0, 9, 2, 0, 9);
        wrongRows(x, 0, 0, 9, 0, 0, 9, 0, 0, 9, 0, 25, 9);
        wrongRows(new SaltTable(), 0, 0, 0);
        for (int bytes : new int[] {1, 2, 4, 5, 7, 8, 10, 11, 13, 14, 15, 36, 37, 39, 399, 400}) {
            wrongRows(x, new int[bytes]);
        }
        for (int bytes : new int[] {0, 3, 6, 9, 12}) {
            Check.due("rows of " + bytes, bytes == 0 ? 2 : 0, () -> Check.rows(x, new int[bytes]).bribes(false));
        }
    }

    /** "the CELLAR (of N COURSES AHEAD, 1 to 24) of which to ask". */
    private static void askByTwentyFour() {
        // Cellar 1 meets the diner in the 4th, 14th and 24th course, of which the first two are sweet.
        SaltTable x = Check.table("diner taste 3 at 3;cellar a grains 9 at 4 step 5;cellar b grains 9 at 0;sweet 3;sweet 1");
        Check.due("by 1 they tell nothing, the least", 0, () -> Check.rows(x).ask(1));
        Check.due("by 23 neither", 0, () -> Check.rows(x).ask(23));
        Check.due("by 24 cellar 1 tells", 1, () -> Check.rows(x).ask(24));
        SaltTable y = Check.table("diner taste 3 at 3;cellar a grains 9 at 4 step 5;cellar b grains 9 at 3");
        Check.due("by 1", 1, () -> Check.rows(y).ask(1));
        Check.due("rows of later courses than N", 1, () -> Check.rows(y, 0, 24, 9).ask(1));
    }

    /** "none with fewer than two, or without CELLARS". */
    private static void askOfFewerThanTwo() {
        SaltTable x = Check.table("diner taste 3 at 0;cellar a grains 20 at 0");
        Check.due("of two", 0, () -> Check.rows(x, 0, 0, 20).ask(1));
        Check.due("of one", -1, () -> Check.rows(x, 0, 1, 18).ask(1));
        Check.due("of none", -1, () -> Check.rows(x, 0, 1, 9).ask(1));
        Check.due("nobody to be bribed", -1, () -> Check.rows(Check.table("cellar a grains 20 at 0")).ask(1));
        Check.due("without cellars", -1, () -> Check.rows(Check.table("diner taste 3 at 0;diner taste 3 at 1")).ask(1));
    }

    /** "parted so that the greatest part of one number is the least (of several the least; ...)". */
    private static void askOfSeveral() {
        // By 2 courses cellar 0 met diner 0, cellar 1 diners 1 and 2, cellar 2 diners 0 and 2: of 7 sets the first
        // makes 4 and 3, each of the others 2, 4 and 1.
        SaltTable x = Check.table("diner taste 3 at 0;diner taste 3 at 4;diner taste 3 at 5;cellar a grains 99 at 0;"
                + "cellar b grains 99 at 4;cellar c grains 99 at 0 step 5");
        Check.due("a tie of 4: the least", 0, () -> Check.rows(x).ask(2));
        // Diner 0 is known to be bribed: of 3 sets cellar 0 makes 3, each of the others 1 and 2.
        Check.due("what parts more", 1, () -> Check.rows(x, 0, 1, 97).ask(2));
        SaltTable y = Check.table("diner taste 3 at 9;cellar a grains 9 at 0;cellar a grains 9 at 9;cellar a grains 9 at 9");
        Check.due("of two that part alike the least", 1, () -> Check.rows(y).ask(1));
        SaltTable w = Check.table("diner taste 1 at 0;cellar a grains 200 at 5;cellar a grains 200 at 0");
        Check.due("a part of 200 grains counts", 1, () -> Check.rows(w).ask(1));
        SaltTable v = Check.table("diner taste 9 at 0;diner taste 9 at 1;cellar a grains 8 at 0;cellar a grains 20 at 0;"
                + "cellar a grains 9 at 5");
        // By 2 courses of 4 sets cellar 0 has 0 in each, cellar 1 makes 1, 2 and 1, cellar 2 has 9 in each.
        Check.due("a part of no grains counts", 1, () -> Check.rows(v).ask(2));
        SaltTable z = Check.table("diner taste 3 at 9;cellar a grains 9 at 0;cellar a grains 9 at 0;cellar a grains 9 at 0;"
                + "cellar a grains 9 at 0;cellar a grains 9 at 9");
        Check.due("the last of five", 4, () -> Check.rows(z).ask(1));
    }

    /** "WORST of a TRAIT: the DINER who HAS the most of it (of several the least; none, if nobody HAS any)." */
    private static void worstOfSeveral() {
        SaltTable x = Check.table("diner taste 0 at 0;diner taste 1 at 1;diner taste 1 at 2;diner taste 2 at 3;cellar a grains 9 at 1;"
                + "cellar a grains 9 at 2;cellar f grains 9 at 1;cellar f grains 9 at 3");
        for (int trait = 0; trait < 6; trait++) {
            int t = trait;
            Check.due("nobody has any of " + trait, -1, () -> x.worst(t));
        }
        x.courses(1);
        Check.due("of two alike the least", 1, () -> x.worst(0));
        Check.due("the first diner", 0, () -> freed().worst(0));
        Check.due("the most", 3, () -> x.worst(5));
        Check.due("nobody has any of another", -1, () -> x.worst(1));
        Check.due("nobody at all", -1, () -> new SaltTable().worst(0));
    }

    /** "ALIKE: pairs of DINERS of whom each HAS the most of the same TRAIT (the least of several; some of it)". */
    private static void alikeBySomeOfIt() {
        Check.due("nobody", 0, () -> new SaltTable().alike());
        SaltTable x = Check.table("diner taste 1 at 0;diner taste 1 at 1;diner taste 1 at 2;cellar a grains 9 at 0;cellar b grains 9 at 0;"
                + "cellar a grains 9 at 1;cellar b grains 9 at 2");
        Check.due("nobody has any", 0, x::alike);
        x.courses(1);
        // Diner 0 has 1 a and 1 b, of which a is the least; diner 1 has a, diner 2 has b.
        Check.due("0 and 1", 1, x::alike);
        SaltTable w = Check.table("diner taste 1 at 0;diner taste 1 at 1;diner taste 1 at 2;cellar a grains 9 at 0;cellar b grains 9 at 0;"
                + "cellar a grains 9 at 1;cellar a grains 9 at 2;cellar f grains 9 at 9 step 9");
        w.courses(1);
        Check.due("all three by a", 3, w::alike);
        Check.law(w, "take 4");
        w.pass(0, 0);
        w.pass(4, 0);
        w.courses(1);
        // Diner 0 has 6 a, 1 b and 5 f, diner 1 has 1 a and 5 b, diner 2 has 6 a.
        Check.due("the most, not the last", 1, w::alike);
        SaltTable y = Check.table(EIGHT + "cellar f grains 200 at 0;cellar f grains 200 at 4");
        y.courses(4);
        Check.due("all pairs of eight", 28, y::alike);
        SaltTable v = Check.table("diner taste 1 at 0;diner taste 5 at 1;diner taste 1 at 2;cellar f grains 9 at 0;cellar a grains 9 at 1;"
                + "cellar f grains 9 at 2");
        v.courses(1);
        Check.due("whatever the one between them has", 1, v::alike);
        SaltTable z = Check.table(EIGHT + "cellar f grains 200 at 0");
        z.courses(1);
        Check.due("one who has some and seven who have none", 0, z::alike);
    }

    /** "MIXED ...: of how many TRAITS it HAS some"; "SHARE ...: in hundredths, rounded down (0 without)". */
    private static void mixedAndShare() {
        SaltTable x = Check.table("diner taste 1 at 0;diner taste 2 at 1;diner taste 0 at 2;cellar a grains 9 at 0;cellar a grains 9 at 1;"
                + "cellar f grains 9 at 1");
        Check.due("without any", 0, () -> x.share(0, 0));
        x.courses(1);
        int[][] wants = {{0, 0, 33}, {1, 0, 66}, {2, 0, 0}, {1, 5, 100}, {0, 5, 0}, {1, 1, 0}};
        for (int[] want : wants) {
            Check.due("share of " + want[0] + " of " + want[1], want[2], () -> x.share(want[0], want[1]));
        }
        Check.due("mixed of one", 1, () -> x.diner(0, 3));
        Check.due("mixed of two", 2, () -> x.diner(1, 3));
        Check.due("mixed of none", 0, () -> x.diner(2, 3));
        SaltTable z = Check.table("diner taste 1 at 0;cellar f grains 1 at 0");
        z.courses(1);
        Check.due("all of a single grain", 100, () -> z.share(0, 5));
        SaltTable y = CourseEdgesTest.nearlyFull();
        y.fill(0, 1);
        y.courses(1);
        Check.feedText(y, "diner taste 1 at 1");
        y.table();
        y.fill(0, 1);
        y.courses(1);
        Check.due("999 of 1000", 99, () -> y.share(0, 0));
        Check.due("1 of 1000", 0, () -> y.share(1, 0));
    }

    /** "WHOLE: all grains: those in CELLARS, in DINERS and SPILT, together." */
    private static void wholeOfAll() {
        Check.due("nothing", 0, () -> new SaltTable().whole());
        SaltTable x = Check.table("diner taste 3 at 0;diner taste 1 at 5;cellar a grains 9 at 0;cellar f grains 8 at 5;spill 100");
        Check.due("in cellars", 17, x::whole);
        x.courses(1);
        Check.due("in cellars", 11, () -> x.count(10));
        Check.due("spilt", 2, () -> x.count(9));
        Check.due("together with 4 in diners", 17, x::whole);
    }

    /** "by how many takings all its GRAINS would be gone, if all DINERS ... round and round ...; none." */
    private static void sentenceRoundAndRound() {
        SaltTable x = Check.table("diner taste 3 at 0 diet;diner taste 5 at 1;cellar a grains 3 at 9 set 9;cellar a grains 4 at 9;"
                + "cellar a grains 8 at 9;cellar a grains 9 at 9;cellar a grains 200 at 9;sweet 0");
        Check.law(x, "spare 30");
        int[] wants = {1, 2, 2, 3, 50};
        for (int c = 0; c < 5; c++) {
            int n = c;
            Check.due("sentence " + c, wants[c], () -> x.sentence(n));
        }
        x.fill(0, 198);
        Check.due("200 by eight at a round", 50, () -> x.sentence(0));
        Check.due("free", 0, () -> freed().sentence(0));
        Check.due("nobody", -1, () -> Check.table("cellar a grains 1 at 0").sentence(0));
        Check.due("no taste", -1, () -> Check.table("diner taste 0 at 0;diner taste 0 at 1;cellar a grains 1 at 0").sentence(0));
        Check.due("one of no taste", 200, () -> Check.table("diner taste 1 at 1;cellar a grains 200 at 0").sentence(0));
        Check.due("a turn of no taste is one", 2,
                () -> Check.table("diner taste 0 at 0;diner taste 9 at 1;cellar a grains 9 at 0").sentence(0));
    }

    /** "ALONE ...: how many PINCHES of that one alone ... till it is FREE (0 to 200); none." */
    private static void aloneByTwoHundred() {
        SaltTable x = Check.table("diner taste 1 at 0;diner taste 0 at 1;diner taste 9 at 2 diet;diner taste 9 at 3;"
                + "cellar a grains 200 at 0;cellar a grains 199 at 5;cellar a grains 1 at 5;cellar a grains 9 at 5 set 9");
        Check.due("two hundred", 200, () -> x.alone(0, 0));
        Check.due("one fewer", 199, () -> x.alone(1, 0));
        Check.due("one", 1, () -> x.alone(2, 0));
        Check.due("no taste", -1, () -> x.alone(0, 1));
        Check.due("on a diet", -1, () -> x.alone(2, 2));
        Check.due("all set", -1, () -> x.alone(3, 3));
        Check.due("the last pinch is a small one", 23, () -> x.alone(0, 3));
        Check.due("free", 0, () -> freed().alone(0, 0));
        x.sweet(0, true);
        Check.due("in a sweet course", -1, () -> x.alone(2, 0));
        SaltTable y = freed();
        y.sweet(1, true);
        Check.due("free in a sweet course", 0, () -> y.alone(0, 0));
    }

    /** "FAIR: whether SENTENCES of all CELLARS that are not FREE are the same." */
    private static void fairOfFew() {
        Check.due("without cellars", true, () -> new SaltTable().fair());
        Check.due("all free", true, () -> freed().fair());
        Check.due("one", true, () -> Check.table("diner taste 1 at 0;cellar a grains 9 at 0").fair());
        Check.due("nobody, so none and none", true, () -> Check.table("cellar a grains 9 at 0;cellar a grains 1 at 0").fair());
        SaltTable x = Check.table("diner taste 3 at 0;cellar a grains 3 at 0;cellar a grains 4 at 1;cellar a grains 6 at 1");
        Check.due("1, 2 and 2", false, x::fair);
        x.courses(1);
        Check.due("2 and 2, one is free", true, x::fair);
        x.fill(2, 1);
        Check.due("2 and 3", false, x::fair);
        Check.due("five alike", true, () -> Check.table("diner taste 3 at 0;cellar a grains 4 at 0;cellar a grains 5 at 0;"
                + "cellar a grains 6 at 0;cellar a grains 5 at 0;cellar a grains 4 at 0").fair());
        Check.due("a single grain is a sentence, too", false,
                () -> Check.table("diner taste 3 at 0;cellar a grains 1 at 0;cellar a grains 4 at 0").fair());
    }

    /** "for the CELLAR of the least number, not FREE, at its SEAT ...; none without such a CELLAR." */
    private static void gameWithoutACellar() {
        Check.due("no cellar", -1, () -> Check.table("diner taste 3 at 0").game(0));
        Check.due("at another seat", -1, () -> Check.table("diner taste 3 at 0;cellar a grains 9 at 1").game(0));
        Check.due("free", -1, () -> freed().game(0));
        Check.due("a single grain", 9, () -> Check.table("diner taste 3 at 0;cellar a grains 1 at 0").game(0));
        SaltTable x = Check.table("diner taste 3 at 0;cellar a grains 1 at 0;cellar a grains 9 at 0;cellar a grains 9 at 0 set 9");
        Check.due("the first", 9, () -> x.game(0));
        x.courses(1);
        x.pass(0, 0);
        x.pass(2, 0);
        Check.due("the third, as the first is free and the second gone on", 5, () -> x.game(0));
        x.pass(1, 0);
        Check.due("the second", 9, () -> x.game(0));
    }

    private static void game(int taste, String law, int want) {
        SaltTable x = Check.law(Check.table("diner taste " + taste + " at 0;cellar a grains 9 at 0"), law);
        Check.due("game of taste " + taste + " by " + law, want, () -> x.game(0));
        x.diet(0, true);
        x.sweet(0, true);
        Check.due("whatever they are now", want, () -> x.game(0));
    }

    /** "choices ... from which neither would have more by the other one of its own, as bits". */
    private static void gameOfEquals() {
        game(0, "", 5);
        game(1, "", 5);
        game(2, "", 13);
        game(3, "", 9);
        game(9, "", 9);
        // Of TASTE 0 the pinch of 4 off a diet gives the diner 0, which is less than 2.
        game(0, "take 4", 4);
        game(2, "take 4", 12);
        game(3, "take 4", 8);
        game(3, "spare 3", 5);
        game(3, "spare 2", 9);
    }

    /** "CROWD: the SEAT at which the most CELLARS are that are not FREE (of several the least; none)." */
    private static void crowdOfSeveral() {
        Check.due("without cellars", -1, () -> new SaltTable().crowd());
        Check.due("all free", -1, () -> freed().crowd());
        Check.due("the last seat", 9, () -> Check.table("cellar a grains 1 at 9").crowd());
        Check.due("the first seat", 0, () -> Check.table("cellar a grains 1 at 9;cellar a grains 1 at 0").crowd());
        Check.due("of two and two the least", 4,
                () -> Check.table("cellar a grains 1 at 9;cellar a grains 1 at 4;cellar a grains 1 at 9;"
                        + "cellar a grains 1 at 4;cellar a grains 1 at 0").crowd());
    }

    /** "GAPS: SEATS without a DINER, as bits." */
    private static void gapsAsBits() {
        Check.due("all ten", 1023, () -> new SaltTable().gaps());
        Check.due("of eight the last two", 0x300, () -> Check.table(EIGHT + "damp 0").gaps());
        Check.due("the first is taken", 1022, () -> Check.table("diner taste 1 at 0").gaps());
        Check.due("the last is taken", 511, () -> Check.table("diner taste 1 at 9").gaps());
    }

    /** "ahead of some of the next 12 COURSES AHEAD (0, 1, .. 11 having gone by)"; "(both as it is then)". */
    private static void meetsOfTwelve() {
        SaltTable x = Check.table("diner taste 0 at 0;cellar a grains 1 at 0;cellar a grains 1 at 9;cellar a grains 1 at 1;"
                + "cellar a grains 1 at 9 step 9;cellar a grains 1 at 1 step 2");
        Check.due("behind 0, 1, 9, 9, and never", 15, () -> x.meets(0));
        SaltTable y = Check.table("diner taste 0 at 0;diner taste 9 at 9;diner taste 9 at 5;cellar a grains 9 at 9;"
                + "cellar a grains 10 at 9;cellar a grains 10 at 5");
        Check.due("one is freed ahead of it", 2, () -> y.meets(0) & 3);
        Check.due("one is freed by two", 0, () -> y.meets(0) & 4);
        Check.due("in the course in which it is freed it is met", 7, () -> y.meets(1));
        Check.due("free at its seat", 0, () -> freed().meets(0));
        Check.due("no cellars", 0, () -> Check.table("diner taste 0 at 0").meets(0));
    }

    /** "in which of the COURSES ahead of which 0, 1, .. N (0 to 60) go by the fewest GRAINS are taken in it (of several the first)". */
    private static void leastOfSixty() {
        // Both are freed by 60 courses, and until then one of them at least is at a diner.
        SaltTable x = Check.table(EIGHT + "cellar a grains 48 at 0;cellar a grains 48 at 5");
        int[][] wants = {{0, 0}, {1, 0}, {2, 0}, {3, 3}, {4, 3}, {59, 3}, {60, 60}};
        for (int[] want : wants) {
            Check.due("least of " + want[0], want[1], () -> x.least(want[0]));
        }
        Check.due("nothing is taken, the first", 0, () -> new SaltTable().least(60));
    }

    /** "TRIAL of N COURSES (0 to 200) from now (draws, too; nothing stays)". */
    private static void trialOfTwoHundred() {
        SaltTable x = Check.table("cellar a grains 200 at 0;spill 100");
        int[][] wants = {{0, 0, 1}, {1, 1, 1}, {199, 199, 1}, {200, 200, 0}};
        for (int[] want : wants) {
            Seen.unmoved("spilt by " + want[0], want[1], x, () -> x.trial(want[0], false));
            Seen.unmoved("held by " + want[0], want[2], x, () -> x.trial(want[0], true));
        }
        x.courses(50);
        Check.due("what was spilt counts", 50, () -> x.trial(0, false));
        Check.due("and goes on", 200, () -> x.trial(200, false));
        SaltTable y = Check.table("cellar a grains 9 at 0;spill 9");
        y.seed(2);
        Check.due("from the seed of now", 1, () -> y.trial(1, false));
        y.seed(1);
        Check.due("from another", 0, () -> y.trial(1, false));
        Check.due("without cellars", 0, () -> new SaltTable().trial(200, true));
    }

    /** "SPAN: ... from SEED 1, 2, .. 6": the first draws are 38, 8, 47, 17, 55, 26 (from 0 it is 0, from 7 it is 64). */
    private static void spanOfSixSeeds() {
        int[][] wants = {{8, 0, 0}, {9, 0, 1}, {55, 0, 1}, {56, 1, 1}, {64, 1, 1}};
        for (int[] want : wants) {
            SaltTable x = Check.table("cellar a grains 200 at 0;spill " + want[0]);
            x.seed(7);
            Seen.unmoved("least below " + want[0], want[1], x, () -> x.span(1, false));
            Seen.unmoved("greatest below " + want[0], want[2], x, () -> x.span(1, true));
            Check.due("of no course", 0, () -> x.span(0, true));
        }
        // Below 14 SEED 1 spills three in five courses and none of the others as many; below 25 SEED 6 alone spills none in six.
        Check.due("the first seed", 3, () -> Check.table("cellar a grains 10 at 0;spill 14").span(5, true));
        Check.due("the last seed", 0, () -> Check.table("cellar a grains 10 at 0;spill 25").span(6, false));
        SaltTable y = Check.table("cellar a grains 200 at 0;spill 100");
        Check.due("of 199", 199, () -> y.span(199, true));
        Check.due("of 200", 200, () -> y.span(200, false));
        y.courses(10);
        Check.due("with what was spilt", 10, () -> y.span(0, false));
        Check.due("the greatest, too", 10, () -> y.span(0, true));
    }
}
