/** The edges that the document names of pinches, courses, draws and acts ("==== 2.", promises 7 to 17), a sentence each. */
public final class CourseEdgesTest {
    private static final String ONE = "diner taste 4 at 0;cellar a grains 50 at 0";
    private static final String TAKE_ALL = "take 30;take 30;take 30;take 30;take 30;take 30;take 30";

    public static void main(String[] args) {
        tasteLessSet();
        takenAndSpared();
        grainsAtMost();
        sweetCourses();
        lastOfACellar();
        setsByOneAtLeast();
        freeTakesNone();
        byNumbers();
        hasAtMost();
        spillBelow();
        spiltByNobody();
        spiltAtMost();
        dampBelow();
        oneDrawAlways();
        setAtMost();
        roundTheTable();
        courseBehindEleven();
        dinnerAtMost();
        drawsGoRound();
        dinerWhats();
        cellarWhats();
        passedToEdges();
        knockedAndFilled();
        seatsChanged();
        dietAndMenu();
        coursesOfOneCall();
        Check.ends("CourseEdgesTest");
    }

    private static void pinch(String table, String law, int want) {
        SaltTable x = Check.law(Check.table(table), law);
        Check.due("pinch of " + table + " by " + law, want, () -> x.cellar(0, 6));
        Check.due("taken of " + table + " by " + law, want, () -> x.courses(1));
    }

    /** "PINCH: TASTE (0 on a DIET) less SET, 0 at least; then the sum of N of all take LINES that hold more". */
    private static void tasteLessSet() {
        int[] wants = {4, 3, 2, 1, 0, 0, 0, 0, 0, 0};
        for (int set = 0; set < 10; set++) {
            String cellar = ";cellar a grains 50 at 0 set " + set;
            pinch("diner taste 4 at 0" + cellar, "", wants[set]);
            pinch("diner taste 4 at 0" + cellar, "take 3", wants[set] + 3);
            pinch("diner taste 4 at 0 diet" + cellar, "", 0);
            pinch("diner taste 4 at 0 diet" + cellar, "take 3", 3);
        }
        pinch("diner taste 0 at 0;cellar a grains 50 at 0", "", 0);
        pinch("diner taste 9 at 0;cellar a grains 50 at 0 set 9", "", 0);
        pinch("diner taste 9 at 0;cellar a grains 50 at 0 set 8", "", 1);
    }

    /** "then the sum of N of all take LINES that hold more, that of all spare LINES less; 0 at least". */
    private static void takenAndSpared() {
        pinch(ONE, "spare 3", 1);
        pinch(ONE, "spare 4", 0);
        pinch(ONE, "spare 5", 0);
        pinch(ONE, "spare 30;take 26", 0);
        pinch(ONE, "spare 30;take 27", 1);
        pinch(ONE, "take 27;spare 30", 1);
        pinch(ONE, "spare 30;take 25;take 1;take 1", 1);
        pinch(ONE, "spare 30;spare 30;take 30", 0);
        pinch(ONE, "take 9 if 1 < 0;spare 9 if 1 < 0", 4);
        pinch(ONE, "set 30", 4);
    }

    /** "GRAINS at most". */
    private static void grainsAtMost() {
        pinch("diner taste 9 at 0;cellar a grains 8 at 0", "", 8);
        pinch("diner taste 9 at 0;cellar a grains 9 at 0", "", 9);
        pinch("diner taste 9 at 0;cellar a grains 10 at 0", "", 9);
        pinch("diner taste 9 at 0;cellar a grains 5 at 0", "spare 6", 3);
        pinch("diner taste 9 at 0;cellar a grains 1 at 0", "spare 8", 1);
        pinch("diner taste 0 at 0;cellar a grains 200 at 0", TAKE_ALL, 200);
        pinch("diner taste 0 at 0;cellar a grains 200 at 0", "take 30;take 30;take 30;take 30;take 30;take 30;take 19", 199);
    }

    /** "0 in a SWEET COURSE". */
    private static void sweetCourses() {
        for (int course = 0; course < 12; course++) {
            pinch(ONE + ";course " + course + ";sweet " + course, "take 30", 0);
            pinch(ONE + ";course " + course + ";sweet " + (course + 1) % 12 + ";sweet " + (course + 11) % 12, "take 30", 34);
        }
    }

    /** "last: GRAINS are not above TASTE." */
    private static void lastOfACellar() {
        int[][] wants = {{3, 1}, {4, 1}, {5, 0}};
        for (int[] want : wants) {
            SaltTable x = Check.law(Check.table("diner taste 4 at 0;cellar a grains " + want[0] + " at 0"), "set 1 if last");
            Check.due("last with " + want[0], 1 + want[1], () -> x.cellar(0, 7));
            x.diet(0, true);
            Check.due("on a diet, too, with " + want[0], 1 + want[1], () -> x.cellar(0, 7));
        }
        SaltTable y = Check.law(Check.table("diner taste 0 at 0;cellar a grains 1 at 0;spill 100"), "set 1 if last");
        Check.due("1 is above 0", 1, () -> y.cellar(0, 7));
        y.courses(1);
        y.pass(0, 0);
        Check.due("0 is not above 0", 2, () -> y.cellar(0, 7));
    }

    /** "SETS by ...: 1 and the sum of N of all set LINES that hold." */
    private static void setsByOneAtLeast() {
        SaltTable x = Check.table(ONE);
        Check.due("without a law", 1, () -> x.cellar(0, 7));
        Check.law(x, "set 30 if diet");
        Check.due("none holds", 1, () -> x.cellar(0, 7));
        Check.law(x, "set 30;set 30;set 30;set 30;set 30;set 30;set 30;set 30;set 30;set 30;set 30;set 30");
        Check.due("twelve hold", 361, () -> x.cellar(0, 7));
    }

    /** "Each CELLAR that is not FREE, by numbers, at whose SEAT a DINER is". */
    private static void freeTakesNone() {
        SaltTable x = Check.law(Check.table("diner taste 4 at 0;cellar a grains 4 at 0;cellar a grains 9 at 5"), "take 1");
        Check.due("just all of it", 4, () -> x.courses(1));
        Check.due("is free", 2, x::held);
        x.pass(0, 0);
        Check.due("a free one has no pinch", 0, () -> x.cellar(0, 6));
        Check.due("nothing is taken from it", 0, () -> x.courses(1));
        Check.due("nor where nobody is", 9, () -> x.cellar(1, 2));
        Check.due("nor is there a row of it", 1, () -> x.count(12));
    }

    /** "(a) Each CELLAR ..., by numbers": a later one sees what an earlier one left. */
    private static void byNumbers() {
        SaltTable x = Check.law(Check.table("diner taste 2 at 0;cellar b grains 9 at 0;cellar b grains 9 at 0;cellar c grains 9 at 0"),
                "take 3 if has > 1");
        Check.due("2, then 5, then 2 of another trait", 9, () -> x.courses(1));
        Check.due("first", 7, () -> x.cellar(0, 2));
        Check.due("second", 4, () -> x.cellar(1, 2));
        Check.due("third", 7, () -> x.cellar(2, 2));
        Check.due("the latest row is of the last", 2, () -> x.log(0, 3));
        Check.due("the row ahead of it of the second", 1, () -> x.log(1, 3));
    }

    /** A diner who has 998 of trait a, and a cellar that is free at its seat. */
    static SaltTable nearlyFull() {
        SaltTable x = Check.law(Check.table("diner taste 4 at 0;cellar a grains 200 at 0"), TAKE_ALL);
        for (int i = 0; i < 4; i++) {
            x.courses(1);
            x.fill(0, i < 3 ? 200 : 198);
            x.pass(0, 0);
        }
        x.courses(1);
        x.pass(0, 0);
        return x;
    }

    /** "HAS of its TRAIT as many more (999 at most)". */
    private static void hasAtMost() {
        SaltTable x = nearlyFull();
        Check.due("998", 998, () -> x.has(0, 0));
        for (int i = 1; i <= 3; i++) {
            int grains = i;
            x.fill(0, grains);
            x.pass(0, 0);
            Check.due("all are taken", grains, () -> x.courses(1));
            Check.due("999 at most", 999, () -> x.has(0, 0));
            Check.due("none is left", 0, () -> x.cellar(0, 2));
            Check.due("the row tells all", grains, () -> x.log(0, 4));
        }
        Check.due("together", 999, () -> x.diner(0, 4));
        Check.due("what is above is lost", 999, x::whole);
        Check.law(x, "take 1 if has > 998;take 2 if has > 999");
        x.fill(0, 9);
        x.pass(0, 0);
        Check.due("a law sees 999", 5, () -> x.cellar(0, 6));
    }

    private static void spilt(int seed, int spill, int want) {
        SaltTable x = Check.table("cellar a grains 9 at 0;spill " + spill);
        x.seed(seed);
        x.courses(1);
        Check.due("spilt from seed " + seed + " by " + spill, want, () -> x.count(9));
        Check.due("left from seed " + seed + " by " + spill, 9 - want, () -> x.cellar(0, 2));
    }

    /** "(b) If DRAW modulo 100 is below SPILL": from SEED 4773 it is 0 (22100), from 6996 99 (32599), from 2 8 (908). */
    private static void spillBelow() {
        spilt(4773, 0, 0);
        spilt(4773, 1, 1);
        spilt(6996, 99, 0);
        spilt(6996, 100, 1);
        spilt(2, 8, 0);
        spilt(2, 9, 1);
    }

    /** "of a CELLAR that is not FREE, each by numbers, whether a DINER is there or not"; "(A DRAW for each ...)". */
    private static void spiltByNobody() {
        SaltTable x = Check.table("diner taste 1 at 0;cellar a grains 9 at 0;cellar a grains 9 at 5;cellar a grains 1 at 0;spill 100");
        x.courses(1);
        Check.due("where a diner is", 7, () -> x.cellar(0, 2));
        Check.due("where nobody is", 8, () -> x.cellar(1, 2));
        Check.due("the one that was freed in it has none to spill", 2, () -> x.count(9));
        Check.same("two draws and one for damp", "" + drawn(1, 3), "" + Seen.seed(x));
        SaltTable y = Check.table("cellar a grains 1 at 0;spill 100;damp 100");
        y.courses(1);
        Check.due("the last grain is spilt", 0, y::held);
        Check.due("a free one is not set", 0, () -> y.cellar(0, 3));
        Check.same("a draw for it and one for damp", "" + drawn(1, 2), "" + Seen.seed(y));
        y.courses(1);
        Check.due("no more is spilt", 1, () -> y.count(9));
        Check.same("one for damp alone", "" + drawn(1, 3), "" + Seen.seed(y));
    }

    /** "one of its GRAINS is SPILT (9999 at most)". */
    private static void spiltAtMost() {
        SaltTable x = Check.table("spill 100;cellar a grains 200 at 0;cellar a grains 200 at 0;cellar a grains 200 at 0;"
                + "cellar a grains 200 at 0;cellar a grains 200 at 0");
        for (int i = 0; i < 9; i++) {
            x.courses(100);
            x.courses(100);
            for (int c = 0; c < 5; c++) {
                x.fill(c, c == 4 && i == 8 ? 199 : 200);
            }
        }
        Check.due("9000", 9000, () -> x.count(9));
        x.courses(100);
        x.courses(99);
        Check.due("9995", 9995, () -> x.count(9));
        x.courses(1);
        Check.due("9999", 9999, () -> x.count(9));
        x.fill(0, 2);
        Check.due("so it is in a trial", 9999, () -> x.trial(2, false));
        Check.due("and in a span", 9999, () -> x.span(2, true));
        x.courses(1);
        Check.due("9999 at most", 9999, () -> x.count(9));
        Check.due("a grain goes all the same", 1, () -> x.cellar(0, 2));
    }

    private static void damped(int seed, int damp, int want) {
        SaltTable x = Check.table("cellar a grains 1 at 0;damp " + damp);
        x.seed(seed);
        x.courses(1);
        Check.due("set from seed " + seed + " by " + damp, want, () -> x.cellar(0, 3));
    }

    /** "(c) If DRAW modulo 100 is below DAMP": the second draw is 0 from SEED 4773 and 26594, 99 from 3677 and 6996. */
    private static void dampBelow() {
        damped(4773, 0, 0);
        damped(4773, 1, 1);
        damped(26594, 0, 0);
        damped(26594, 1, 1);
        damped(3677, 99, 0);
        damped(3677, 100, 1);
        damped(6996, 99, 0);
        damped(6996, 100, 1);
    }

    static int drawn(int seed, int times) {
        int drawn = seed;
        for (int i = 0; i < times; i++) {
            drawn = 1103515245 * drawn + 12345;
        }
        return drawn;
    }

    /** "(one DRAW, always)". */
    private static void oneDrawAlways() {
        for (String table : new String[] {"", "damp 0", "damp 100", "diner taste 1 at 0", "spill 100"}) {
            SaltTable x = Check.table(table);
            x.courses(3);
            Check.same("three draws of " + table, "" + drawn(1, 3), "" + Seen.seed(x));
        }
        SaltTable x = Check.table("diner taste 9 at 0;cellar a grains 9 at 0");
        x.courses(1);
        Check.same("one draw if all are free", "" + drawn(1, 1), "" + Seen.seed(x));
    }

    private static void setTo(int set, String law, int want) {
        SaltTable x = Check.law(Check.table("diner taste 0 at 0;cellar a grains 9 at 0 set " + set + ";cellar a grains 9 at 5 set " + set
                + ";damp 100"), law);
        x.courses(1);
        Check.due("set " + set + " by " + law, want, () -> x.cellar(0, 3));
        Check.due("set " + set + " where nobody is", Math.min(9, set + 1), () -> x.cellar(1, 3));
    }

    /** "SET is 1 more, or what it SETS by, if a DINER is there (9 at most)." */
    private static void setAtMost() {
        setTo(0, "", 1);
        setTo(7, "", 8);
        setTo(8, "", 9);
        setTo(9, "", 9);
        setTo(0, "set 7", 8);
        setTo(0, "set 8", 9);
        setTo(0, "set 9", 9);
        setTo(0, "set 30;set 30", 9);
        setTo(5, "set 3", 9);
        setTo(5, "set 4", 9);
    }

    /** "(d) Each CELLAR is passed on by STEP, round the table." */
    private static void roundTheTable() {
        for (int seat = 0; seat < 10; seat++) {
            SaltTable x = Check.table("cellar a grains 1 at " + seat + " step 1;cellar a grains 1 at " + seat + " step 9;spill 100");
            x.courses(1);
            int last = seat == 0 ? 9 : seat - 1;
            int next = seat == 9 ? 0 : seat + 1;
            Check.due("by 1 from " + seat, next, () -> x.cellar(0, 0));
            Check.due("by 9 from " + seat, last, () -> x.cellar(1, 0));
            Check.due("both are free", 0, x::held);
            x.courses(10);
            Check.due("free ones go on, too", next, () -> x.cellar(0, 0));
            x.courses(1);
            Check.due("by 9 twice from " + seat, (seat + 8) % 10, () -> x.cellar(1, 0));
        }
    }

    /** "COURSE is the next one (behind 11: 0, DINNER 1 more, ...)". */
    private static void courseBehindEleven() {
        SaltTable x = Check.table("course 10");
        int[][] wants = {{11, 0}, {0, 1}, {1, 1}};
        for (int[] want : wants) {
            x.courses(1);
            Check.due("course", want[0], () -> x.count(4));
            Check.due("dinner", want[1], () -> x.count(5));
        }
        Check.feedText(x, "course 0");
        x.table();
        Check.due("a text sets no dinner", 1, () -> x.count(5));
        x.courses(12);
        Check.due("a dinner on", 2, () -> x.count(5));
        Check.due("course 0 again", 0, () -> x.count(4));
    }

    /** "DINNER 1 more, 9999 at most": 512 calls do not come so far, so what is tested here goes beyond the promise. */
    private static void dinnerAtMost() {
        SaltTable x = Check.table("diner taste 1 at 0;cellar a grains 9 at 0");
        x.pass(0, 5);
        for (int i = 0; i < 1199; i++) {
            x.courses(100);
        }
        x.courses(87);
        Check.due("course", 11, () -> x.count(4));
        Check.due("dinner", 9998, () -> x.count(5));
        x.courses(1);
        Check.due("dinner 9999", 9999, () -> x.count(5));
        x.courses(12);
        Check.due("dinner 9999 at most", 9999, () -> x.count(5));
        Check.due("course 0", 0, () -> x.count(4));
        x.fill(0, 1);
        x.pass(0, 0);
        x.courses(1);
        Check.due("its row", 9999, () -> x.log(0, 0));
    }

    /** "SEED is 1103515245 times SEED and 12345, as an int that goes round; bits 16 to 30". */
    private static void drawsGoRound() {
        int[][] wants = {{0, 12345}, {-1, -1103502900}, {Integer.MAX_VALUE, 1043980748}, {Integer.MIN_VALUE, -2147471303}};
        for (int[] want : wants) {
            SaltTable x = new SaltTable();
            x.seed(want[0]);
            x.courses(1);
            Check.same("the draw behind " + want[0], "" + want[1], "" + Seen.seed(x));
        }
        // From SEED 2 bit 31 is one: with it the number modulo 100 would be 76, or below 0.
        spilt(2, 8, 0);
        spilt(2, 9, 1);
        // From SEED 3 it is 47; with bit 31 it would be 15.
        spilt(3, 47, 0);
        spilt(3, 48, 1);
    }

    /** "NoSuchElementException: another what", behind "there is no such DINER". */
    private static void dinerWhats() {
        SaltTable x = Check.table("diner taste 9 at 7 diet");
        int[] wants = {7, 9, 1, 0, 0};
        for (int what = 0; what < 5; what++) {
            int w = what;
            Check.due("diner what " + what, wants[what], () -> x.diner(0, w));
        }
        SaltTable y = Check.table("diner taste 9 at 0;cellar a grains 1 at 0;cellar b grains 1 at 0;cellar c grains 1 at 0;"
                + "cellar d grains 1 at 0;cellar e grains 1 at 0");
        y.courses(1);
        Check.due("mixed of five", 5, () -> y.diner(0, 3));
        Check.due("together of five", 5, () -> y.diner(0, 4));
        Check.due("none of the last trait", 0, () -> y.has(0, 5));
    }

    /** "5 the DINER at its SEAT (NONE), 6 the PINCH of that one now (0 without, or FREE), 7 what it SETS by ... (0 without)". */
    private static void cellarWhats() {
        SaltTable x = Check.law(Check.table("diner taste 4 at 0;cellar f grains 4 at 0 set 1 step 9"), "take 1;set 2");
        int[] there = {0, 5, 4, 1, 9, 0, 4, 3};
        int[] away = {9, 5, 4, 1, 9, -1, 0, 0};
        int[] free = {0, 5, 0, 1, 9, 0, 0, 3};
        for (int what = 0; what < 8; what++) {
            int w = what;
            Check.due("there, what " + what, there[what], () -> x.cellar(0, w));
        }
        x.pass(0, 9);
        for (int what = 0; what < 8; what++) {
            int w = what;
            Check.due("where nobody is, what " + what, away[what], () -> x.cellar(0, w));
        }
        x.pass(0, 0);
        x.courses(1);
        x.pass(0, 0);
        for (int what = 0; what < 8; what++) {
            int w = what;
            Check.due("free, what " + what, free[what], () -> x.cellar(0, w));
        }
    }

    /** "A CELLAR is passed: the SEAT where it was." */
    private static void passedToEdges() {
        SaltTable x = Check.table("cellar a grains 5 at 4");
        Check.due("to the last seat", 4, () -> x.pass(0, 9));
        Check.due("to the first seat", 9, () -> x.pass(0, 0));
        Check.due("to where it is", 0, () -> x.pass(0, 0));
        Check.due("it is there", 0, () -> x.cellar(0, 0));
    }

    /** "Knocked: SET that it was."; "Filled: GRAINS then (200 at most)." */
    private static void knockedAndFilled() {
        SaltTable x = Check.table("diner taste 9 at 0;cellar a grains 1 at 0 set 9;cellar a grains 1 at 0");
        Check.due("set 9", 9, () -> x.knock(0));
        Check.due("set 0", 0, () -> x.knock(0));
        Check.due("1 and 198", 199, () -> x.fill(0, 198));
        Check.due("1 and 199", 200, () -> x.fill(1, 199));
        Check.due("199 and 1", 200, () -> x.fill(0, 1));
        Check.due("200 and 1", 200, () -> x.fill(0, 1));
        Check.due("200 and 200", 200, () -> x.fill(0, 200));
        Check.due("it has 200", 200, () -> x.cellar(0, 2));
        SaltTable y = Check.table("diner taste 9 at 0;cellar a grains 1 at 0");
        y.courses(1);
        Check.due("free", 0, y::held);
        Check.due("0 and 200", 200, () -> y.fill(0, 200));
        Check.due("not free any more", 1, y::held);
    }

    /** "Two SEATS are changed about: who sits at the first one then; NONE." */
    private static void seatsChanged() {
        SaltTable x = Check.table("diner taste 1 at 0;diner taste 1 at 9");
        Check.due("first and last", 1, () -> x.change(0, 9));
        Check.due("last and first", 1, () -> x.change(9, 0));
        Check.due("with nobody", -1, () -> x.change(0, 5));
        Check.due("nobody with one", 0, () -> x.change(0, 5));
        Check.due("nobody with nobody", -1, () -> x.change(3, 4));
        Check.due("diner 0", 0, () -> x.diner(0, 0));
        Check.due("diner 1", 9, () -> x.diner(1, 0));
    }

    /** "On a DIET, or not: whether that changed."; "SWEET, or not: whether that changed." */
    private static void dietAndMenu() {
        SaltTable x = Check.table("diner taste 1 at 0;diner taste 1 at 1;diner taste 1 at 2;diner taste 1 at 3;diner taste 1 at 4;"
                + "diner taste 1 at 5;diner taste 1 at 6;diner taste 1 at 7");
        for (int d = 0; d < 8; d++) {
            int n = d;
            Check.due("not on one already", false, () -> x.diet(n, false));
            Check.due("on one", true, () -> x.diet(n, true));
            Check.due("on one already", false, () -> x.diet(n, true));
            Check.due("as bits", (2 << n) - 1, () -> x.count(11));
        }
        for (int course = 0; course < 12; course++) {
            int n = course;
            Check.due("salty already", false, () -> x.sweet(n, false));
            Check.due("sweet", true, () -> x.sweet(n, true));
            Check.due("sweet already", false, () -> x.sweet(n, true));
            Check.due("menu as bits", (2 << n) - 1, () -> x.count(6));
        }
        Check.due("salty", true, () -> x.sweet(0, false));
        Check.due("not on one", true, () -> x.diet(7, false));
        Check.due("menu then", 0xFFE, () -> x.count(6));
        Check.due("diets then", 127, () -> x.count(11));
    }

    /** "So many COURSES more (1 to 100)". */
    private static void coursesOfOneCall() {
        SaltTable x = Check.table("diner taste 1 at 0;cellar a grains 200 at 0");
        Check.due("one", 1, () -> x.courses(1));
        Check.due("course 1", 1, () -> x.count(4));
        Check.due("a hundred", 10, () -> x.courses(100));
        Check.due("course 101", 101 % 12, () -> x.count(4));
        Check.due("dinner 8", 8, () -> x.count(5));
        Check.same("101 times two draws", "" + drawn(1, 202), "" + Seen.seed(x));
    }
}
