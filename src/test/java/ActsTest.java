/** Promises 11 to 17: a cellar passed, knocked, filled, seats changed, a diet, a sweet course, courses. */
public final class ActsTest {
    public static void main(String[] args) {
        pass();
        knock();
        fill();
        change();
        diet();
        sweet();
        takings();
        spills();
        damps();
        rounds();
        spiltAtMost();
        wrongCourses();
        Check.ends("ActsTest");
    }

    private static void pass() {
        SaltTable x = Check.table("cellar a grains 5 at 3");
        Check.due("pass", 3, () -> x.pass(0, 9));
        Check.due("passed", 9, () -> x.cellar(0, 0));
        Check.due("to where it is", 9, () -> x.pass(0, 9));
        Check.noIndex("no seat", () -> x.pass(0, 10));
        Check.noIndex("no seat below", () -> x.pass(0, -1));
        Check.noIndex("no cellar", () -> x.pass(1, 0));
        Check.due("two acts", 2, () -> x.count(13));
    }

    private static void knock() {
        SaltTable x = Check.table("cellar a grains 5 at 3 set 7");
        Check.due("knock", 7, () -> x.knock(0));
        Check.due("knocked", 0, () -> x.cellar(0, 3));
        Check.due("again", 0, () -> x.knock(0));
        Check.noIndex("no cellar", () -> x.knock(1));
        Check.noIndex("no cellar below", () -> x.knock(-1));
    }

    private static void fill() {
        SaltTable x = Check.table("cellar a grains 5 at 3");
        Check.due("fill", 6, () -> x.fill(0, 1));
        Check.due("200 at most", 200, () -> x.fill(0, 200));
        Check.noArgument("of none", () -> x.fill(0, 0));
        Check.noArgument("of too many", () -> x.fill(0, 201));
        Check.noIndex("no cellar first", () -> x.fill(1, 0));
    }

    private static void change() {
        SaltTable x = Check.table("diner taste 1 at 2;diner taste 1 at 5;cellar a grains 5 at 2");
        Check.due("two diners", 1, () -> x.change(2, 5));
        Check.due("the other way", 5, () -> x.diner(0, 0));
        Check.due("the cellar stays", 2, () -> x.cellar(0, 0));
        Check.due("with nobody", -1, () -> x.change(2, 9));
        Check.due("moved", 9, () -> x.diner(1, 0));
        Check.due("nobody with one", 1, () -> x.change(0, 9));
        Check.due("nobody with nobody", -1, () -> x.change(3, 4));
        Check.noArgument("one", () -> x.change(3, 3));
        Check.noIndex("none", () -> x.change(10, 10));
        Check.noIndex("none below", () -> x.change(3, -1));
    }

    private static void diet() {
        SaltTable x = Check.table("diner taste 1 at 2;diner taste 1 at 3");
        Check.due("not on one", false, () -> x.diet(1, false));
        Check.due("on one", true, () -> x.diet(1, true));
        Check.due("bits", 2, () -> x.count(11));
        Check.due("on one already", false, () -> x.diet(1, true));
        Check.due("not any more", true, () -> x.diet(1, false));
        Check.due("no bits", 0, () -> x.count(11));
        Check.noIndex("no diner", () -> x.diet(2, true));
        Check.noIndex("no diner below", () -> x.diet(-1, true));
    }

    private static void sweet() {
        SaltTable x = new SaltTable();
        Check.due("sweet", true, () -> x.sweet(11, true));
        Check.due("already", false, () -> x.sweet(11, true));
        Check.due("bits", 1 << 11, () -> x.count(6));
        Check.due("salty", true, () -> x.sweet(11, false));
        Check.due("salty already", false, () -> x.sweet(0, false));
        Check.noIndex("no course", () -> x.sweet(12, true));
        Check.noIndex("no course below", () -> x.sweet(-1, true));
    }

    private static void takings() {
        SaltTable x = Check.table("diner taste 3 at 0;diner taste 5 at 1;cellar a grains 10 at 0;cellar a grains 10 at 1 step 9;sweet 1");
        Check.due("first course", 8, () -> x.courses(1));
        Check.due("first diner", 3, () -> x.has(0, 0));
        Check.due("second diner", 5, () -> x.has(1, 0));
        Check.due("passed on", 1, () -> x.cellar(0, 0));
        Check.due("passed on by 9", 0, () -> x.cellar(1, 0));
        Check.due("course", 1, () -> x.count(4));
        Check.due("sweet", 0, () -> x.courses(1));
        SaltTable y = Check.law(Check.table("diner taste 2 at 0;cellar b grains 10 at 0;cellar b grains 10 at 0"), "take 3 if has>1");
        Check.due("the second pinch sees the first", 2 + 5, () -> y.courses(1));
        Check.due("by numbers", 8, () -> y.cellar(0, 2));
        SaltTable z = Check.table("diner taste 4 at 0;cellar b grains 10 at 0");
        Check.due("ten courses", 4, () -> z.courses(10));
        Check.due("a round more", 6, () -> z.courses(20));
        Check.due("no grains left", 0, () -> z.courses(100));
    }

    /** From SEED 1 the draws modulo 100 are 38, 58, 13, 15, 51, 27, 10, 19, 12, 86. */
    private static void spills() {
        SaltTable x = Check.table("cellar a grains 10 at 0;spill 38");
        x.courses(1);
        Check.due("38 is not below 38", 0, () -> x.count(9));
        SaltTable y = Check.table("cellar a grains 10 at 0;spill 39");
        int[] spilt = {1, 2, 2, 3, 4};
        for (int i = 0; i < 5; i++) {
            y.courses(1);
            Check.due("spilt by course " + i, spilt[i], () -> y.count(9));
        }
        Check.due("grains left", 6, () -> y.cellar(0, 2));
        SaltTable z = Check.table("cellar a grains 10 at 0;cellar a grains 10 at 0;spill 14");
        z.courses(2);
        Check.due("draws 38 58, then 15 51: none", 0, () -> z.count(9));
        z.courses(1);
        Check.due("draws 10 19: the first", 9, () -> z.cellar(0, 2));
        Check.due("not the second", 10, () -> z.cellar(1, 2));
        SaltTable w = Check.table("diner taste 1 at 0;cellar a grains 1 at 0;cellar a grains 9 at 5;spill 39");
        w.courses(1);
        Check.due("one that is freed in it has no draw", 8, () -> w.cellar(1, 2));
        SaltTable v = Check.table("spill 100;damp 0");
        v.courses(2);
        Check.due("without cellars a draw each for damp alone", drawn(2), () -> v.seed(0));
    }

    private static int drawn(int times) {
        int seed = 1;
        for (int i = 0; i < times; i++) {
            seed = 1103515245 * seed + 12345;
        }
        return seed;
    }

    private static void damps() {
        SaltTable x = Check.law(Check.table("diner taste 1 at 0 diet;cellar a grains 9 at 0;cellar a grains 9 at 4;damp 14"),
                "set 3 if diet");
        x.courses(1);
        Check.due("damp draw 13, a diner is there", 4, () -> x.cellar(0, 3));
        Check.due("damp draw 13, nobody is there", 1, () -> x.cellar(1, 3));
        SaltTable v = Check.table("cellar a grains 9 at 0;damp 58");
        v.courses(1);
        Check.due("58 is not below 58", 0, () -> v.cellar(0, 3));
        SaltTable u = Check.table("cellar a grains 9 at 0;damp 59");
        u.courses(1);
        Check.due("58 is below 59", 1, () -> u.cellar(0, 3));
        SaltTable y = Check.law(Check.table("diner taste 1 at 0 diet;cellar a grains 9 at 0;damp 100"), "set 30");
        y.courses(1);
        Check.due("9 at most", 9, () -> y.cellar(0, 3));
        SaltTable z = Check.table("diner taste 9 at 0;cellar a grains 9 at 0;cellar a grains 9 at 4;damp 100");
        z.courses(1);
        Check.due("not a free one", 0, () -> z.cellar(0, 3));
        Check.due("the other one", 1, () -> z.cellar(1, 3));
        SaltTable w = Check.law(Check.table("diner taste 1 at 0;cellar a grains 9 at 0;course 4;damp 100"),
                "set 1 if course<5 and grains<9 and has>0");
        w.courses(1);
        Check.due("by the grains behind the pinch, in that course", 2, () -> w.cellar(0, 3));
    }

    private static void rounds() {
        SaltTable x = Check.table("course 11;cellar a grains 1 at 8 step 7");
        x.courses(1);
        Check.due("course 0 again", 0, () -> x.count(4));
        Check.due("dinner 1", 1, () -> x.count(5));
        Check.due("round the table", 5, () -> x.cellar(0, 0));
        x.courses(100);
        Check.due("course 4", 4, () -> x.count(4));
        Check.due("dinner 9", 9, () -> x.count(5));
    }

    private static void spiltAtMost() {
        SaltTable x = Check.table("spill 100;" + "cellar a grains 200 at 0;".repeat(4) + "cellar a grains 200 at 0");
        for (int i = 0; i < 10; i++) {
            x.courses(100);
            x.courses(100);
            for (int c = 0; c < 5; c++) {
                x.fill(c, 200);
            }
        }
        Check.due("9999 at most", 9999, () -> x.count(9));
        Check.due("whole", 10999, x::whole);
    }

    private static void wrongCourses() {
        SaltTable x = new SaltTable();
        Check.noArgument("no courses", () -> x.courses(0));
        Check.noArgument("too many", () -> x.courses(101));
        Check.noArgument("below", () -> x.courses(-1));
        Check.due("no act", 0, () -> x.count(13));
    }
}
