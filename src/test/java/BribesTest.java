/** Promises 27 and 28: bribed spoons by what was seen, and which cellar to ask of next. */
public final class BribesTest {
    private static final String THREE = "diner taste 3 at 0;diner taste 5 at 1;diner taste 4 at 5;"
            + "cellar a grains 20 at 0;cellar b grains 10 at 5";

    public static void main(String[] args) {
        bribes();
        wrongRows();
        ask();
        wrongAsk();
        Check.ends("BribesTest");
    }

    private static void sets(SaltTable x, int many, int sure, int... rows) {
        Check.due("sets", many, () -> Check.rows(x, rows).bribes(false));
        Check.due("sure", sure, () -> Check.rows(x, rows).bribes(true));
        Check.due("the tape is used up", false, () -> x.end(1));
    }

    private static void bribes() {
        SaltTable x = Check.table(THREE);
        sets(x, 7, 0);
        sets(x, 4, 0, 0, 1, 17);
        sets(x, 3, 1, 0, 1, 18);
        sets(x, 1, 3, 0, 2, 14);
        sets(x, 4, 0, 0, 2, 13);
        sets(x, 0, 0, 0, 1, 19);
        sets(x, 1, 5, 0, 1, 18, 1, 1, 7);
        sets(x, 7, 0, 0, 0, 20, 1, 0, 10, 0, 0, 20, 0, 0, 20);
        sets(x, 0, 0, 0, 0, 255);
        SaltTable y = Check.table("diner taste 0 at 0;cellar a grains 20 at 0");
        sets(y, 2, 0, 0, 24, 20);
        SaltTable z = Check.law(Check.table("diner taste 0 at 0;cellar a grains 20 at 0"), "take 1;take 1 if has>0");
        sets(z, 1, 1, 0, 24, 20);
        sets(z, 1, 0, 0, 24, 15);
    }

    private static void wrongRows() {
        SaltTable x = Check.table(THREE);
        int[][] wrong = {{0}, {0, 0}, {2, 0, 0}, {255, 0, 0}, {0, 25, 0}, {0, 0, 20, 0}, {0, 0, 20, 0, 0, 20, 0, 0, 20, 0, 0, 20, 0, 0, 20}};
        for (int[] rows : wrong) {
            Check.noArgument("bribes of " + rows.length, () -> Check.rows(x, rows).bribes(false));
            Check.due("used up", false, () -> x.end(1));
            Check.noArgument("ask of " + rows.length, () -> Check.rows(x, rows).ask(1));
            Check.due("used up by ask", false, () -> x.end(1));
        }
    }

    private static void ask() {
        SaltTable x = Check.table(THREE);
        // By 1 course: cellar 0 parts 7 into 4 and 3, cellar 1 likewise.
        Check.due("the least of several", 0, () -> Check.rows(x).ask(1));
        // By 2 courses: cellar 0 into 2, 4 and 1 (none, one or both of diners 0 and 1), cellar 1 into 4 and 3.
        Check.due("of 2 courses", 0, () -> Check.rows(x).ask(2));
        // Known is that diner 0 is bribed: cellar 0 by 1 course says nothing more, cellar 1 does.
        Check.due("what is new", 1, () -> Check.rows(x, 0, 1, 18).ask(1));
        Check.due("of fewer than two", -1, () -> Check.rows(x, 0, 2, 14).ask(1));
        Check.due("of no sets", -1, () -> Check.rows(x, 0, 1, 19).ask(1));
        // By 24 courses both are free whoever is bribed.
        Check.due("of 24", 0, () -> Check.rows(x, 0, 1, 18).ask(24));
        SaltTable z = Check.table("diner taste 3 at 0;diner taste 3 at 1;cellar a grains 20 at 0;cellar b grains 20 at 0 step 9");
        // Of 4 sets cellar 0 by 2 courses makes 1, 2 and 1, cellar 1 makes 2 and 2: a tie.
        Check.due("a tie of greatest parts", 0, () -> Check.rows(z).ask(2));
        // By 10 courses both have met both: likewise.
        Check.due("another tie", 0, () -> Check.rows(z).ask(10));
        SaltTable w = Check.table("diner taste 3 at 0;cellar a grains 20 at 0");
        Check.due("of just two", 0, () -> Check.rows(w).ask(1));
        Check.due("by one row of one", -1, () -> Check.rows(w, 0, 1, 18).ask(1));
        // Of 37 sets each cellar makes 16, 18 and 3; without the last set the second one's greatest were 17.
        SaltTable v = Check.table("diner taste 9 at 0;diner taste 9 at 1;diner taste 9 at 2;diner taste 9 at 3;diner taste 9 at 4;"
                + "diner taste 9 at 5;diner taste 9 at 6;diner taste 9 at 7;cellar a grains 200 at 0;cellar a grains 200 at 4");
        Check.due("of all sets of eight", 37, () -> Check.rows(v).bribes(false));
        Check.due("a tie of all sets of eight", 0, () -> Check.rows(v).ask(3));
        SaltTable y = Check.table("diner taste 3 at 0");
        Check.due("without cellars", -1, () -> Check.rows(y).ask(1));
    }

    private static void wrongAsk() {
        SaltTable x = Check.table(THREE);
        Check.noArgument("of 0", () -> Check.rows(x, 0, 0, 20).ask(0));
        Check.due("used up", false, () -> x.end(1));
        Check.noArgument("of 25", () -> x.ask(25));
        Check.noArgument("below", () -> x.ask(-1));
    }
}
