/** Promises 1 to 6: a new object, the tape, texts of the table and of the law, the first wrong byte. */
public final class TextsTest {
    public static void main(String[] args) {
        newObject();
        feed();
        end();
        tableLines();
        tableFaults();
        tableLimits();
        lawLines();
        lawFaults();
        lawDepth();
        faultStays();
        Check.ends("TextsTest");
    }

    private static void newObject() {
        SaltTable x = new SaltTable();
        int[] counts = {0, 0, 0, -1, 0, 0, 0, 0, 0, 0, 0, 0, 0, 0};
        for (int what = 0; what < counts.length; what++) {
            int w = what;
            Check.due("new count " + what, counts[what], () -> x.count(w));
        }
        Check.due("new fault", -1, x::fault);
        Check.due("new gaps", 1023, x::gaps);
        Check.due("new held", 0, x::held);
        Check.due("new all", 0, x::all);
        Check.due("new swap", -1, x::swap);
        Check.due("new crowd", -1, x::crowd);
        Check.due("new keenest", -1, () -> x.keenest(3));
        Check.due("new alike", 0, x::alike);
        Check.due("new whole", 0, x::whole);
        Check.due("new fair", true, x::fair);
        Check.due("new bribes", 1, () -> x.bribes(false));
        Check.due("new sure", 0, () -> x.bribes(true));
        Check.due("new ask", -1, () -> x.ask(1));
        Check.due("new undo", false, x::undo);
        Check.due("new back", false, x::back);
        Check.due("new seed", 1, () -> x.seed(5));
        Check.noIndex("new diner", () -> x.diner(0, 0));
        Check.noIndex("new cellar", () -> x.cellar(0, 0));
        Check.due("new courses", 0, () -> x.courses(1));
    }

    private static void feed() {
        SaltTable x = new SaltTable();
        for (int i = 1; i <= 20; i++) {
            int n = 20 * i;
            Check.due("feed " + i, n, () -> x.feed(0x20202020, 0x20202020, 0x20202020, 0x20202020, 0x20202020));
        }
        Check.due("feed of too much", -1, () -> x.feed(1, 2, 3, 4, 5));
        Check.due("none came", false, () -> x.end(401));
        Check.due("all were blanks", 1, x::table);
        Check.due("used up", 20, () -> x.feed(0x64616d70, 0x20373720, 0x20202020, 0x20202020, 0x20202020));
        Check.due("highest byte first", 2, x::table);
        Check.due("damp 77", 77, () -> x.count(8));
        x.feed(0, 0, 0, 0, 0);
        x.end(1);
        Check.due("feed behind what is there", 21, () -> x.feed(0, 0, 0, 0, 0));
        for (int i = 0; i < 18; i++) {
            x.feed(0, 0, 0, 0, 0);
        }
        Check.due("381 and 20 are too many", -1, () -> x.feed(0, 0, 0, 0, 0));
    }

    private static void end() {
        SaltTable x = new SaltTable();
        Check.due("end of nothing", true, () -> x.end(0));
        Check.due("end beyond nothing", false, () -> x.end(1));
        x.feed(0x64616d70, 0x20392039, 0, 0, 0);
        Check.due("end below 0", false, () -> x.end(-1));
        Check.due("end beyond", false, () -> x.end(21));
        Check.due("end at all", true, () -> x.end(20));
        Check.due("end at six", true, () -> x.end(6));
        Check.due("end cannot go back", false, () -> x.end(7));
        Check.due("the text was cut", 1, x::table);
        Check.due("damp 9", 9, () -> x.count(8));
    }

    private static void tableLines() {
        SaltTable x = Check.table("  diner taste 9at 3diet ; cellar f grains 200 at 9 set 9 step 9;sweet 11;sweet 0;salty 0 ",
                "spill 100;damp 0;damp 100;course 11", "", "   ", "cellar a grains 001 at 0 step 2;cellar b grains 7at0set 3");
        Check.due("texts", 5, () -> x.count(2));
        Check.due("diners", 1, () -> x.count(0));
        Check.due("seat", 3, () -> x.diner(0, 0));
        Check.due("taste", 9, () -> x.diner(0, 1));
        Check.due("diet", 1, () -> x.diner(0, 2));
        int[][] cellars = {{9, 5, 200, 9, 9}, {0, 0, 1, 0, 2}, {0, 1, 7, 3, 1}};
        for (int c = 0; c < 3; c++) {
            for (int what = 0; what < 5; what++) {
                int cellar = c;
                int w = what;
                Check.due("cellar " + c + " " + what, cellars[c][what], () -> x.cellar(cellar, w));
            }
        }
        Check.due("menu", 1 << 11, () -> x.count(6));
        Check.due("spill", 100, () -> x.count(7));
        Check.due("damp", 100, () -> x.count(8));
        Check.due("course", 11, () -> x.count(4));
    }

    private static void wrongTable(SaltTable x, String text, int fault) {
        Check.feedText(x, text);
        Check.noArgument("table " + text, x::table);
        Check.due("fault of table " + text, fault, x::fault);
        Check.due("tape used up by " + text, false, () -> x.end(1));
    }

    private static void tableFaults() {
        SaltTable x = Check.table("diner taste 1 at 4");
        String[] texts = {"x", ";", "damp 5;;", "damp 5;", "damp 5; ", "damp 5 damp", "damp", "damp  ", "damp x", "damp 1000",
            "damp 0001", "damp 101", "dampx 1", "damp 1x", "diner taste 10 at 0", "diner taste 1 at 4", "diner taste 1 at 5 step 1",
            "diner taste 1 at 5;diner taste 1 at 5", "diner at 1", "cellar a grain 1", "cellar ab grains 1", "cellar g grains 1",
            "cellar 1 grains 1", "cellar a grains 0 at 0", "cellar a grains 201 at 0", "cellar a grains 1 at 10",
            "cellar a grains 1 at 0 step 1 set 1", "cellar a grains 1 at 0 step 10", "cellar a grains 1 at 0 step",
            "sweet 12", "course 12", "spill -1", "Diner taste 1 at 1", "damp 5,", "damp\t5", "diner taste 1 at 6 diet diet",
            "take 5", "damp 5 ;\u00ff", "dinertaste 1 at 1", "dampz 1", "spill 101", "diner taste 1 at 10", "cellar a grains 1 at 0 step 0",
            "cellar a grains 1 at 0 set 10", "salty 12", "damp 100;damp 000;spill 100;spill 0;course 0;sweet 0;x"};
        int[] faults = {0, 0, 7, 7, 8, 7, 4, 6, 5, 5,
            5, 5, 0, 6, 12, 17, 19,
            36, 6, 9, 7, 7,
            7, 16, 16, 21,
            30, 28, 27,
            6, 7, 6, 0, 6, 4, 24,
            0, 8, 0, 0, 6, 17, 28,
            27, 6, 53};
        for (int i = 0; i < texts.length; i++) {
            wrongTable(x, texts[i], faults[i]);
        }
        Check.due("of wrong texts nothing stays: diners", 1, () -> x.count(0));
        Check.due("of wrong texts nothing stays: cellars", 0, () -> x.count(1));
        Check.due("of wrong texts nothing stays: damp", 0, () -> x.count(8));
        Check.due("of wrong texts nothing stays: texts", 1, () -> x.count(2));
        Check.due("seat 5 is still free", -1, () -> x.seat(5));
    }

    private static void tableLimits() {
        String damps = "damp 1;".repeat(14);
        SaltTable x = Check.table(damps.substring(0, 97));
        wrongTable(x, damps, 98);
        wrongTable(x, damps + "  damp 1", 100);
        wrongTable(x, damps + " ;", 99);
        SaltTable y = new SaltTable();
        StringBuilder diners = new StringBuilder();
        for (int i = 0; i < 8; i++) {
            diners.append(i > 0 ? ";" : "").append("diner taste 1 at ").append(i);
        }
        Check.feedText(y, diners.toString());
        Check.due("eight diners", 1, y::table);
        wrongTable(y, "damp 3; diner taste 1 at 9", 8);
        Check.feedText(y, "cellar a grains 1 at 1;".repeat(4) + "cellar a grains 1 at 1");
        Check.due("five cellars", 2, y::table);
        wrongTable(y, "cellar a grains 1 at 1", 0);
        for (int i = 3; i <= 12; i++) {
            int n = i;
            Check.due("text " + i, n, y::table);
        }
        Check.feedText(y, "damp 5");
        Check.due("a thirteenth", "throws.UnsupportedOperationException", y::table);
        Check.due("it was right", -1, y::fault);
        Check.due("used up", false, () -> y.end(1));
        Check.due("nothing changed", 0, () -> y.count(8));
        wrongTable(y, "damp", 4);
        Check.due("still twelve", 12, () -> y.count(2));
    }

    private static void lawLines() {
        SaltTable x = new SaltTable();
        Check.due("an empty law", 0, x::law);
        Check.due("it is one", 0, () -> x.count(3));
        Check.feedText(x, "take 30;spare 0 if diet;set 5 if not(last)or 1+2<has and 3>course+diner+cellar+taste+grains");
        Check.due("three lines", 3, x::law);
        Check.due("three lines counted", 3, () -> x.count(3));
        Check.feedText(x, "set 5;".repeat(11) + "set 5");
        Check.due("twelve lines", 12, x::law);
        Check.feedText(x, "  take 1  ");
        Check.due("in place of the one before", 1, x::law);
        Check.due("one line", 1, () -> x.count(3));
        Check.feedText(x, "take 1;x");
        Check.noArgument("wrong law", x::law);
        Check.due("the one before stays", 1, () -> x.count(3));
        SaltTable y = Check.table("diner taste 1 at 0;cellar a grains 99 at 0");
        for (int i = 0; i < 60; i++) {
            Check.law(y, "take 1 if not(1<0 or 2<1 or 3<2 or 4<3 or 5<4 or 6<5);take 2 if 1>2 or diet or grains<99");
        }
        Check.due("a law behind many others", 2, () -> y.cellar(0, 6));
        String longest = "or1<0".repeat(76);
        Check.law(y, "take 1if 1<0" + longest + "or 1<0");
        Check.due("a long one that does not hold", 1, () -> y.cellar(0, 6));
        Check.law(y, "take 1if 1<0" + longest + "or 0<1  ");
        Check.due("a long one of 400 bytes that holds", 2, () -> y.cellar(0, 6));
    }

    private static void wrongLaw(String text, int fault) {
        SaltTable x = new SaltTable();
        Check.feedText(x, text);
        Check.noArgument("law " + text, x::law);
        Check.due("fault of law " + text, fault, x::fault);
        Check.due("no law of " + text, -1, () -> x.count(3));
        Check.due("tape used up by " + text, false, () -> x.end(1));
    }

    private static void lawFaults() {
        wrongLaw("take", 4);
        wrongLaw("take 31", 5);
        wrongLaw("take 1 2", 7);
        wrongLaw("take if", 5);
        wrongLaw("damp 1", 0);
        wrongLaw("take 1;", 7);
        wrongLaw("take 1 if", 9);
        wrongLaw("take 1 if  ", 11);
        wrongLaw("take 1 if 5", 11);
        wrongLaw("take 1 if 5 and diet", 12);
        wrongLaw("take 1 if 1000<1", 10);
        wrongLaw("take 1 if 5<", 12);
        wrongLaw("take 1 if 5<;", 12);
        wrongLaw("take 1 if 5+<1", 12);
        wrongLaw("take 1 if 5<6<7", 13);
        wrongLaw("take 1 if 5=6", 11);
        wrongLaw("take 1 if diet<6", 14);
        wrongLaw("take 1 if diet last", 15);
        wrongLaw("take 1 if diet and", 18);
        wrongLaw("take 1 if diet or or", 18);
        wrongLaw("take 1 if (diet", 15);
        wrongLaw("take 1 if (diet;", 15);
        wrongLaw("take 1 if diet)", 14);
        wrongLaw("take 1 if ()", 11);
        wrongLaw("take 1 if (1)<2", 12);
        wrongLaw("take 1 if not", 13);
        wrongLaw("take 1 if notdiet", 10);
        wrongLaw("take 1 if spill<1", 10);
        wrongLaw("take 1 if set<1", 10);
        wrongLaw("set 5;".repeat(12), 72);
        wrongLaw("set 5;".repeat(12) + "  set 5", 74);
        wrongLaw("take 1 if a<1", 10);
    }

    private static void lawDepth() {
        SaltTable x = new SaltTable();
        Check.feedText(x, "take 1 if ((((((diet)))))) and not not not not not not diet");
        Check.due("six deep, twice", 1, x::law);
        Check.feedText(x, "take 1 if not(not(not(diet or (last))))");
        Check.noArgument("seven deep", x::law);
        Check.due("the seventh", 30, x::fault);
        wrongLaw("take 1 if (((((((diet)))))))", 16);
        wrongLaw("take 1 if ((((((not diet))))))", 16);
        wrongLaw("take 1 if not not not not not not not diet", 34);
        wrongLaw("take 1 if not not not not not not (diet)", 34);
        wrongLaw("take 1 if ((((((x", 16);
    }

    private static void faultStays() {
        SaltTable x = new SaltTable();
        Check.feedText(x, "damp 5 x");
        Check.noArgument("wrong", x::table);
        Check.noArgument("bribes are no text", () -> Check.rows(x, 1).bribes(true));
        Check.due("fault stays over other calls", 7, x::fault);
        x.image();
        Check.feedText(x, "take 1");
        x.law();
        Check.due("none without one", -1, x::fault);
        Check.feedText(x, "take 99");
        Check.noArgument("wrong law", x::law);
        Check.due("going back", true, x::back);
        Check.due("fault does not go back", 5, x::fault);
        x.courses(1);
        x.undo();
        Check.due("nor is it undone", 5, x::fault);
    }
}
