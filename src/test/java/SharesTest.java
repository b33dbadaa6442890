/** Promises 29 to 38: who has what, sentences, games, rows of seats. */
public final class SharesTest {
    public static void main(String[] args) {
        worst();
        alike();
        share();
        whole();
        sentence();
        alone();
        fair();
        game();
        crowd();
        gaps();
        Check.ends("SharesTest");
    }

    /** Behind a course diner 0 has 3 a, diner 1 has 3 a and 5 b, diner 2 has 2 b and 2 c, diner 3 has nothing. */
    private static SaltTable fed() {
        SaltTable x = Check.table("diner taste 3 at 0;diner taste 5 at 1;diner taste 2 at 2;diner taste 0 at 3;"
                + "cellar a grains 9 at 0;cellar a grains 3 at 1;cellar b grains 9 at 1;cellar b grains 9 at 2;cellar c grains 9 at 2");
        x.courses(1);
        return x;
    }

    private static void worst() {
        SaltTable x = fed();
        Check.due("the least of several", 0, () -> x.worst(0));
        Check.due("the most", 1, () -> x.worst(1));
        Check.due("the only one", 2, () -> x.worst(2));
        Check.due("nobody", -1, () -> x.worst(5));
        SaltTable y = Check.table("diner taste 0 at 0;diner taste 1 at 1;cellar f grains 1 at 1;cellar f grains 1 at 5");
        y.courses(1);
        Check.due("a single grain", 1, () -> y.worst(5));
        Check.due("a crowd of one", 6, y::crowd);
        Check.due("mixed of one", 1, () -> y.diner(1, 3));
        Check.due("all of one", 100, () -> y.share(1, 5));
        Check.noIndex("no trait", () -> x.worst(6));
        Check.noIndex("no trait below", () -> x.worst(-1));
    }

    private static void alike() {
        SaltTable x = fed();
        // a, b, b (the least of b and c), nothing
        Check.due("one pair", 1, x::alike);
        SaltTable y = Check.table("diner taste 3 at 0;diner taste 5 at 1;diner taste 2 at 2;cellar f grains 9 at 0;"
                + "cellar f grains 9 at 1;cellar f grains 9 at 2");
        Check.due("nobody has any", 0, y::alike);
        y.courses(1);
        Check.due("three of one", 3, y::alike);
    }

    private static void share() {
        SaltTable x = fed();
        Check.due("half", 50, () -> x.share(0, 0));
        Check.due("5 of 7", 71, () -> x.share(1, 1));
        Check.due("2 of 7", 28, () -> x.share(2, 1));
        Check.due("all", 100, () -> x.share(2, 2));
        Check.due("none of some", 0, () -> x.share(3, 2));
        Check.due("without", 0, () -> x.share(0, 5));
        Check.noIndex("no diner", () -> x.share(4, 0));
        Check.noIndex("no trait", () -> x.share(0, 6));
        Check.noIndex("no trait below", () -> x.share(0, -1));
    }

    private static void whole() {
        SaltTable x = fed();
        Check.due("nothing is lost", 39, x::whole);
        Check.feedText(x, "spill 100");
        x.table();
        x.courses(2);
        Check.due("nor by spills", 39, x::whole);
        Check.due("as these were", true, () -> x.count(9) > 0);
        x.fill(0, 10);
        Check.due("what is filled", 49, x::whole);
    }

    private static void sentence() {
        SaltTable x = Check.table("diner taste 3 at 0 diet;diner taste 0 at 1;diner taste 2 at 2;cellar a grains 8 at 9 set 9;"
                + "cellar a grains 3 at 9;cellar a grains 4 at 9;sweet 0");
        Check.due("3, 0, 2, 3", 4, () -> x.sentence(0));
        Check.due("3", 1, () -> x.sentence(1));
        Check.due("3, 0, 2", 3, () -> x.sentence(2));
        Check.noIndex("no cellar", () -> x.sentence(3));
        Check.noIndex("no cellar below", () -> x.sentence(-1));
        SaltTable y = Check.table("diner taste 0 at 0;cellar a grains 200 at 0");
        Check.due("none", -1, () -> y.sentence(0));
        SaltTable z = Check.table("cellar a grains 1 at 0;spill 100");
        Check.due("nobody", -1, () -> z.sentence(0));
        z.courses(1);
        Check.due("gone already", 0, () -> z.sentence(0));
        SaltTable w = Check.table("diner taste 0 at 0;diner taste 0 at 1;diner taste 0 at 2;diner taste 0 at 3;diner taste 0 at 4;"
                + "diner taste 0 at 5;diner taste 0 at 6;diner taste 1 at 7;cellar a grains 200 at 0");
        Check.due("the longest", 1600, () -> w.sentence(0));
    }

    private static void alone() {
        SaltTable x = Check.table("diner taste 3 at 0;diner taste 4 at 1 diet;cellar a grains 10 at 5;cellar a grains 200 at 5 set 2");
        Check.due("3, 3, 3, 1", 4, () -> x.alone(0, 0));
        Check.due("on a diet", -1, () -> x.alone(0, 1));
        Check.due("one by one", 200, () -> x.alone(1, 0));
        Check.noIndex("no cellar", () -> x.alone(2, 0));
        Check.noIndex("no diner", () -> x.alone(0, 2));
        Check.noIndex("no diner below", () -> x.alone(0, -1));
        Check.law(x, "spare 1 if has>2;take 2 if diet;spare 30 if grains < 3 and diner > 0");
        Check.due("3, 2, 2, 2, 1", 5, () -> x.alone(0, 0));
        Check.due("2, then 1 a time", -1, () -> x.alone(0, 1));
        Check.due("has stays", 0, () -> x.has(0, 0));
        Check.due("grains stay", 10, () -> x.cellar(0, 2));
        x.sweet(0, true);
        Check.due("sweet", -1, () -> x.alone(0, 0));
        SaltTable y = Check.table("diner taste 9 at 0 diet;cellar a grains 1 at 5;spill 100");
        y.courses(1);
        Check.due("free already", 0, () -> y.alone(0, 0));
    }

    private static void fair() {
        SaltTable x = Check.table("diner taste 3 at 0;diner taste 5 at 1;cellar a grains 4 at 0;cellar a grains 8 at 4;cellar b grains 9 at 5");
        Check.due("2, 2 and 3", false, x::fair);
        SaltTable y = Check.table("diner taste 3 at 0;diner taste 5 at 1;cellar a grains 4 at 0;cellar a grains 8 at 4;cellar b grains 3 at 0");
        Check.due("2, 2 and 1", false, y::fair);
        y.courses(1);
        Check.due("1 and 2", false, y::fair);
        y.courses(1);
        Check.due("2 alone, two are free", true, y::fair);
        SaltTable z = Check.table("diner taste 0 at 0;cellar a grains 4 at 0;cellar a grains 8 at 4");
        Check.due("none and none", true, z::fair);
    }

    private static void game(int taste, String law, int want) {
        SaltTable x = Check.law(Check.table("diner taste " + taste + " at 0 diet;cellar a grains 9 at 0;sweet 0"), law);
        Check.due("game of taste " + taste + " by " + law, want, () -> x.game(0));
        Check.due("the diet stays", 1, () -> x.count(11));
        Check.due("the menu stays", 1, () -> x.count(6));
    }

    private static void game() {
        game(3, "", 9);
        game(2, "", 13);
        game(1, "", 5);
        game(3, "take 5 if diet", 8);
        game(1, "take 5 if diet", 4);
        game(9, "spare 30 if not diet", 5);
        SaltTable x = Check.table("diner taste 3 at 0;diner taste 3 at 1;diner taste 3 at 2;cellar a grains 1 at 0 set 9;"
                + "cellar a grains 9 at 0;cellar b grains 1 at 2");
        Check.due("the least number is set", 5, () -> x.game(0));
        Check.due("no cellar there", -1, () -> x.game(1));
        Check.noIndex("no diner", () -> x.game(3));
        Check.noIndex("no diner below", () -> x.game(-1));
        x.courses(1);
        x.pass(2, 2);
        Check.due("a free one is none", -1, () -> x.game(2));
    }

    private static void crowd() {
        SaltTable x = Check.table("diner taste 9 at 7;cellar a grains 1 at 7 step 9;cellar a grains 1 at 7 step 9;"
                + "cellar a grains 9 at 5;cellar a grains 9 at 5;cellar b grains 9 at 9");
        Check.due("the least of several", 5, x::crowd);
        x.pass(2, 9);
        Check.due("one went", 7, x::crowd);
        x.courses(1);
        Check.due("free ones do not count", 0, x::crowd);
    }

    private static void gaps() {
        SaltTable x = Check.table("diner taste 9 at 0;diner taste 9 at 9;cellar a grains 9 at 5");
        Check.due("gaps", 0x1FE, x::gaps);
        x.change(0, 5);
        Check.due("gaps then", 0x1DF, x::gaps);
    }
}
