/** Promises 7 to 10: diners, what they have, cellars with pinches by the law, seats. */
public final class TableTest {
    private static final String ONE = "diner taste 4 at 0;cellar a grains 50 at 0";

    public static void main(String[] args) {
        diner();
        has();
        cellar();
        pinches();
        conditions();
        truths();
        linesOfTheirOwn();
        setsBy();
        seat();
        Check.ends("TableTest");
    }

    private static void diner() {
        SaltTable x = Check.table("diner taste 9 at 7 diet;diner taste 2 at 3;cellar c grains 5 at 3 step 9;cellar a grains 5 at 3 step 9");
        int[][] wants = {{7, 9, 1, 0, 0}, {3, 2, 0, 0, 0}};
        for (int d = 0; d < 2; d++) {
            for (int what = 0; what < 5; what++) {
                int n = d;
                int w = what;
                Check.due("diner " + d + " " + what, wants[d][what], () -> x.diner(n, w));
            }
        }
        x.courses(1);
        Check.due("mixed", 2, () -> x.diner(1, 3));
        Check.due("has in all", 4, () -> x.diner(1, 4));
        Check.noIndex("no diner", () -> x.diner(2, 0));
        Check.noIndex("no diner below", () -> x.diner(-1, 9));
        Check.noElement("no what", () -> x.diner(1, 5));
        Check.noElement("no what below", () -> x.diner(1, -1));
    }

    private static void has() {
        SaltTable x = Check.table(ONE);
        x.courses(1);
        Check.due("has of a", 4, () -> x.has(0, 0));
        Check.due("has of f", 0, () -> x.has(0, 5));
        Check.noIndex("no trait", () -> x.has(0, 6));
        Check.noIndex("no trait below", () -> x.has(0, -1));
        Check.noIndex("no diner", () -> x.has(1, 0));
        Check.law(x, "take 30;take 30;take 30;take 30;take 30;take 30;take 30");
        for (int i = 0; i < 5; i++) {
            x.fill(0, 200);
            x.pass(0, 0);
            Check.due("all at once", 200, () -> x.courses(1));
        }
        Check.due("999 at most", 999, () -> x.has(0, 0));
    }

    private static void cellar() {
        SaltTable x = Check.table("diner taste 4 at 0;cellar e grains 50 at 0 set 1 step 3;cellar a grains 3 at 5;cellar a grains 2 at 0");
        int[][] wants = {{0, 4, 50, 1, 3, 0, 3, 1}, {5, 0, 3, 0, 1, -1, 0, 0}, {0, 0, 2, 0, 1, 0, 2, 1}};
        for (int c = 0; c < 3; c++) {
            for (int what = 0; what < 8; what++) {
                int n = c;
                int w = what;
                Check.due("cellar " + c + " " + what, wants[c][what], () -> x.cellar(n, w));
            }
        }
        x.courses(1);
        x.pass(2, 0);
        Check.due("a free one has no pinch", 0, () -> x.cellar(2, 6));
        Check.due("a free one still sets by", 1, () -> x.cellar(2, 7));
        Check.noIndex("no cellar", () -> x.cellar(3, 0));
        Check.noIndex("no cellar below", () -> x.cellar(-1, 9));
        Check.noElement("no what", () -> x.cellar(0, 8));
        Check.noElement("no what below", () -> x.cellar(0, -1));
    }

    private static void pinch(String table, String law, int want) {
        SaltTable x = Check.law(Check.table(table), law);
        Check.due("pinch of " + table + " by " + law, want, () -> x.cellar(0, 6));
    }

    private static void pinches() {
        pinch(ONE, "", 4);
        pinch("diner taste 4 at 0;cellar a grains 50 at 0 set 4", "", 0);
        pinch("diner taste 4 at 0;cellar a grains 50 at 0 set 9", "take 3", 3);
        pinch("diner taste 4 at 0 diet;cellar a grains 50 at 0", "", 0);
        pinch("diner taste 4 at 0 diet;cellar a grains 50 at 0 set 2", "take 3", 3);
        pinch(ONE, "take 3;take 2;spare 4", 5);
        pinch(ONE, "spare 4;spare 2;take 3", 1);
        pinch(ONE, "spare 5", 0);
        pinch(ONE, "set 9", 4);
        pinch(ONE, "take 30;take 30", 50);
        pinch(ONE + ";sweet 0", "take 30", 0);
        pinch(ONE + ";sweet 0;course 1", "take 30", 34);
    }

    private static void condition(String condition, boolean holds) {
        SaltTable x = Check.table("diner taste 1 at 9;diner taste 5 at 2 diet;cellar b grains 1 at 7;cellar c grains 5 at 2;course 3");
        Check.law(x, "take 2 if " + condition);
        Check.due(condition, holds ? 2 : 0, () -> x.cellar(1, 6));
    }

    private static void conditions() {
        condition("diet", true);
        condition("not diet", false);
        condition("last", true);
        condition("diner>0 and diner<2", true);
        condition("cellar>0 and cellar<2", true);
        condition("taste>4 and taste<6", true);
        condition("grains>4 and grains<6", true);
        condition("course>2 and course<4", true);
        condition("has>0", false);
        condition("has<1", true);
        condition("1+2+3>5", true);
        condition("1+2+3>6", false);
        condition("999>998", true);
        condition("999+999<998+999+1", false);
        condition("999+999<999+999+1", true);
        condition("taste+course+cellar>8", true);
        condition("9>taste+course+cellar", false);
        condition("has>0 and has>0 or diet", true);
        condition("diet or has>0 and has>0", true);
        condition("(diet or has>0) and has>0", false);
        condition("not has>0 and diet", true);
        condition("not(has>0 and diet)", true);
        condition("not not diet", true);
        condition("not(diet) or not(last)", false);
        condition("((diet and (last or has>0)) and not(has>0 or (1<0 or (2>3))))", true);
        SaltTable x = Check.law(Check.table("diner taste 4 at 0;cellar a grains 5 at 0"), "take 1 if last");
        Check.due("5 are above a taste of 4", 4, () -> x.cellar(0, 6));
        SaltTable y = Check.law(Check.table("diner taste 4 at 0;cellar a grains 50 at 0"), "take 3 if has>3");
        y.courses(1);
        y.pass(0, 0);
        Check.due("it has 4 now", 7, () -> y.cellar(0, 6));
    }

    /** Each way in which three atoms hold or not, by "ALL { or ALL }; ALL: ATOM { and ATOM }; ATOM: not ATOM | ( C )". */
    private static void truths() {
        for (int way = 0; way < 8; way++) {
            boolean a = (way & 1) != 0;
            boolean b = (way & 2) != 0;
            boolean c = (way & 4) != 0;
            String[] texts = {"A or B and C", "A and B or C", "(A or B) and C", "A and (B or C)", "not A or B and not C",
                "not (A and B) or C", "A or B or C", "A and B and C", "not A and B or not (B or C)", "not (A or not (B and not C))",
                "A and B or B and C or A and C"};
            boolean[] holds = {a || b && c, a && b || c, (a || b) && c, a && (b || c), !a || b && !c,
                !(a && b) || c, a || b || c, a && b && c, !a && b || !(b || c), !(a || !(b && !c)),
                a && b || b && c || a && c};
            for (int i = 0; i < texts.length; i++) {
                condition(texts[i].replace("A", a ? "1<2" : "2<1").replace("B", b ? "2>1" : "1>2").replace("C", c ? "diet" : "has>0"),
                        holds[i]);
            }
        }
    }

    /** A line holds or not by its own condition, whatever those ahead of it and behind it do. */
    private static void linesOfTheirOwn() {
        pinch(ONE, "take 1 if diet;take 2", 6);
        pinch(ONE, "take 1;take 2 if diet", 5);
        pinch(ONE, "take 1 if diet;take 2 if not diet;take 4 if diet;take 8", 14);
        pinch(ONE, "take 1 if not diet;take 2 if diet;take 4;spare 3 if diet;spare 1", 8);
        SaltTable x = Check.law(Check.table(ONE), "take 9 if diet;set 4;set 8 if diet;set 16 if not diet");
        Check.due("so it is with set", 21, () -> x.cellar(0, 7));
    }

    private static void setsBy() {
        SaltTable x = Check.law(Check.table(ONE), "set 3;set 2 if last;set 30 if not diet;take 9");
        Check.due("sets by", 34, () -> x.cellar(0, 7));
        x.pass(0, 1);
        Check.due("without a diner", 0, () -> x.cellar(0, 7));
    }

    private static void seat() {
        SaltTable x = Check.table("diner taste 1 at 9;diner taste 1 at 0");
        Check.due("seat 9", 0, () -> x.seat(9));
        Check.due("seat 0", 1, () -> x.seat(0));
        Check.due("seat 5", -1, () -> x.seat(5));
        Check.noIndex("seat 10", () -> x.seat(10));
        Check.noIndex("seat -1", () -> x.seat(-1));
    }
}
