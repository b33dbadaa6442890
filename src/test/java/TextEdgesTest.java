import java.util.List;

/** The edges that the document names of the tape and the texts ("Terms", promises 1 to 6), a sentence each. */
public final class TextEdgesTest {
    private static final String IS_WRONG = "throws.IllegalArgumentException";
    private static final String IS_FULL = "throws.UnsupportedOperationException";

    public static void main(String[] args) {
        tapeOfFourHundred();
        tapeEnds();
        tapeUsedUp();
        seatsOfTexts();
        eightDiners();
        noTwoInOneSeat();
        fiveCellars();
        traitLetters();
        boundsOfTableNumbers();
        valuesAtFirst();
        digits();
        twelveTexts();
        fourteenLines();
        twelveLawLines();
        boundsOfLawNumbers();
        lawInPlaceOfAnother();
        wordsAreLong();
        blanks();
        textsWithoutLines();
        sixDeep();
        moreMustCome();
        cannotStandThere();
        nothingStaysOfWrongTexts();
        faultOfLatest();
        Check.ends("TextEdgesTest");
    }

    private static void right(SaltTable x, String text) {
        int texts = x.count(2);
        Check.feedText(x, text);
        Check.due("table " + text, texts + 1, x::table);
        Check.due("no fault of table " + text, -1, x::fault);
    }

    private static void wrong(SaltTable x, String text, int fault) {
        Check.feedText(x, text);
        Seen.unmovedButTape("table " + text, IS_WRONG, x, x::table);
        Check.due("fault of table " + text, fault, x::fault);
    }

    private static void rightLaw(SaltTable x, String text, int lines) {
        Check.feedText(x, text);
        Check.due("law " + text, lines, x::law);
        Check.due("no fault of law " + text, -1, x::fault);
        Check.due("lines of law " + text, lines, () -> x.count(3));
    }

    private static void wrongLaw(SaltTable x, String text, int fault) {
        Check.feedText(x, text);
        Seen.unmovedButTape("law " + text, IS_WRONG, x, x::law);
        Check.due("fault of law " + text, fault, x::fault);
    }

    private static String joined(int times, String line) {
        return (line + ";").repeat(times - 1) + line;
    }

    private static SaltTable blankTape(int bytes) {
        SaltTable x = new SaltTable();
        Check.feedText(x, " ".repeat(bytes));
        return x;
    }

    private static int feedBlanks(SaltTable x) {
        return x.feed(0x20202020, 0x20202020, 0x20202020, 0x20202020, 0x20202020);
    }

    /** "NONE, and none come, if it would have more than 400." */
    private static void tapeOfFourHundred() {
        SaltTable x = blankTape(380);
        Check.due("380 and 20 are 400", 400, () -> feedBlanks(x));
        Seen.unmoved("400 and 20 are more", -1, x, () -> feedBlanks(x));
        Check.due("all 400 are blanks", 1, x::table);
        SaltTable y = blankTape(381);
        Seen.unmoved("381 and 20 are more", -1, y, () -> feedBlanks(y));
        y.end(380);
        Check.due("cut to 380 there is room", 400, () -> feedBlanks(y));
        SaltTable z = blankTape(379);
        Check.due("379 and 20", 399, () -> feedBlanks(z));
        Seen.unmoved("399 and 20 are more", -1, z, () -> feedBlanks(z));
        SaltTable w = new SaltTable();
        Check.due("of each number the highest first, 255 too", 20, () -> w.feed(0x64616d70, 0x203720ff, -1, 0, 0));
        Check.due("a byte of 255 cannot stand there", IS_WRONG, w::table);
        Check.due("it is the eighth", 7, w::fault);
    }

    /** "false, and nothing happens, if it has fewer, or n is below 0." */
    private static void tapeEnds() {
        SaltTable x = blankTape(20);
        for (int n : new int[] {21, 400, 401, -1, Integer.MIN_VALUE, Integer.MAX_VALUE}) {
            Seen.unmoved("end of " + n, false, x, () -> x.end(n));
        }
        Check.due("all of it", true, () -> x.end(20));
        Check.same("it has 20", "20", "" + Seen.tape(x));
        Check.due("all but one", true, () -> x.end(19));
        Check.due("what is cut is gone", false, () -> x.end(20));
        Check.due("none of it", true, () -> x.end(0));
        Check.due("none of none", true, () -> x.end(0));
        Seen.unmoved("one of none", false, x, () -> x.end(1));
    }

    /** "Uses the TAPE up", whether the call throws or not; others leave it. */
    private static void tapeUsedUp() {
        SaltTable x = Check.table("diner taste 1 at 0;cellar a grains 9 at 0");
        Check.feedText(x, "damp 1");
        x.table();
        Check.same("by a right table", "0", "" + Seen.tape(x));
        Check.feedText(x, "take 1");
        x.law();
        Check.same("by a right law", "0", "" + Seen.tape(x));
        Check.rows(x, 0, 0, 9).bribes(true);
        Check.same("by bribes", "0", "" + Seen.tape(x));
        Check.rows(x, 0, 0, 9).ask(1);
        Check.same("by ask", "0", "" + Seen.tape(x));
        Check.rows(x, 0, 0, 9);
        Seen.unmovedButTape("by ask of no such number", IS_WRONG, x, () -> x.ask(0));
        Check.rows(x, 0, 0);
        Seen.unmovedButTape("by wrong rows", IS_WRONG, x, () -> x.bribes(false));
        Check.rows(x, 0, 0);
        Seen.unmovedButTape("by wrong rows of ask", IS_WRONG, x, () -> x.ask(1));
        Check.rows(x, 1, 2, 3, 4);
        Seen.unmoved("not by another call that throws", "throws.IndexOutOfBoundsException", x, () -> x.frees(5));
        x.courses(1);
        x.undo();
        x.image();
        x.back();
        Check.same("nor by acts, undo and back", "4", "" + Seen.tape(x));
    }

    /** "at: a SEAT": SEATS 0 to 9. */
    private static void seatsOfTexts() {
        SaltTable x = new SaltTable();
        right(x, "diner taste 1 at 0;diner taste 1 at 9;cellar a grains 1 at 0;cellar a grains 1 at 9");
        Check.due("diner 0 at the first seat", 0, () -> x.seat(0));
        Check.due("diner 1 at the last seat", 1, () -> x.seat(9));
        Check.due("cellar 0 at the first seat", 0, () -> x.cellar(0, 0));
        Check.due("cellar 1 at the last seat", 9, () -> x.cellar(1, 0));
        wrong(x, "diner taste 1 at 10", 17);
        wrong(x, "cellar a grains 1 at 10", 21);
    }

    /** "DINERS (at most 8, numbered from 0 on)"; of "a DINER ... too many, the first word". */
    private static void eightDiners() {
        SaltTable x = new SaltTable();
        String seven = "diner taste 1 at 0;diner taste 1 at 1;diner taste 1 at 2;diner taste 1 at 3;diner taste 1 at 4;"
                + "diner taste 1 at 5;diner taste 1 at 6";
        wrong(x, seven + ";diner taste 1 at 7; diner taste 1 at 8", 153);
        right(x, seven);
        x.image();
        wrong(x, "diner taste 1 at 7;diner taste 1 at 8", 19);
        right(x, "diner taste 9 at 7");
        Check.due("eight", 8, () -> x.count(0));
        Check.due("the eighth is number 7", 9, () -> x.diner(7, 1));
        Check.noIndex("there is no number 8", () -> x.diner(8, 1));
        wrong(x, "diner taste 1 at 8", 0);
        wrong(x, "diner", 0);
        wrong(x, "diner taste 99 at 7", 0);
        wrong(x, " damp 5;  diner", 10);
        right(x, "cellar a grains 1 at 7");
        x.back();
        Check.due("gone back to seven", 7, () -> x.count(0));
        right(x, "diner taste 2 at 8");
        Check.due("again the eighth", 2, () -> x.diner(7, 1));
    }

    /** "a SEAT (no two in one)"; "of a diner one without a diner, else it is wrong". */
    private static void noTwoInOneSeat() {
        SaltTable x = new SaltTable();
        wrong(x, "diner taste 1 at 4;diner taste 2 at  4", 37);
        right(x, "diner taste 1 at 4");
        wrong(x, "diner taste 2 at 004 diet", 17);
        x.change(4, 6);
        wrong(x, "diner taste 2 at 6", 17);
        right(x, "diner taste 2 at 4;cellar a grains 1 at 4;cellar a grains 1 at 4");
        Check.due("cellars may be at one seat, and at a diner's", 4, () -> x.cellar(1, 0));
    }

    /** "CELLARS (at most 5, numbered from 0 on)"; of "a CELLAR too many, the first word". */
    private static void fiveCellars() {
        SaltTable x = new SaltTable();
        wrong(x, joined(6, "cellar a grains 1 at 0"), 115);
        right(x, joined(4, "cellar a grains 1 at 0"));
        wrong(x, "cellar b grains 1 at 0;cellar", 23);
        right(x, "cellar b grains 7 at 0");
        Check.due("five", 5, () -> x.count(1));
        Check.due("the fifth is number 4", 7, () -> x.cellar(4, 2));
        Check.noIndex("there is no number 5", () -> x.cellar(5, 2));
        wrong(x, "damp 3 ; cellar a grains 1 at 0", 9);
        right(x, "diner taste 1 at 0");
    }

    /** "T: one letter a to f, its TRAIT". */
    private static void traitLetters() {
        for (int trait = 0; trait < 6; trait++) {
            SaltTable x = Check.table("cellar " + (char) ('a' + trait) + " grains 1 at 0");
            Check.due("trait of letter " + trait, trait, () -> x.cellar(0, 1));
        }
        SaltTable x = new SaltTable();
        for (String letters : List.of("g", "z", "aa", "af", "A", "F", "`", "0", "1", "grains", "(", ";")) {
            wrong(x, "cellar " + letters + " grains 1 at 0", 7);
        }
        right(x, "cellar f grains 1 at 0");
    }

    private static void bounds(String ahead, int least, int most, String behind) {
        SaltTable x = new SaltTable();
        right(x, ahead + least + behind);
        SaltTable y = new SaltTable();
        right(y, ahead + most + behind);
        wrong(new SaltTable(), ahead + (most + 1) + behind, ahead.length());
        if (least > 0) {
            wrong(new SaltTable(), ahead + (least - 1) + behind, ahead.length());
        }
        wrong(new SaltTable(), ahead + 999 + behind, ahead.length());
        wrong(new SaltTable(), ahead + "-1" + behind, ahead.length());
    }

    /** "TASTE 0 to 9", "N of cellar: 1 to 200", "SET 0 to 9", "STEP 1 to 9", "SPILL 0 to 100, DAMP 0 to 100", "a COURSE". */
    private static void boundsOfTableNumbers() {
        bounds("diner taste ", 0, 9, " at 0");
        bounds("diner taste 1 at ", 0, 9, " diet");
        bounds("cellar a grains ", 1, 200, " at 0");
        bounds("cellar a grains 1 at ", 0, 9, " set 1");
        bounds("cellar a grains 1 at 0 set ", 0, 9, "");
        bounds("cellar a grains 1 at 0 set 1 step ", 1, 9, "");
        bounds("cellar a grains 1 at 0 step ", 1, 9, "");
        bounds("sweet ", 0, 11, "");
        bounds("salty ", 0, 11, "");
        bounds("spill ", 0, 100, "");
        bounds("damp ", 0, 100, "");
        bounds("course ", 0, 11, "");
        SaltTable x = Check.table("diner taste 9 at 9;cellar a grains 200 at 9 set 9 step 9;sweet 0;sweet 11;spill 100;"
                + "damp 100;course 11");
        Check.due("taste 9", 9, () -> x.diner(0, 1));
        Check.due("grains 200", 200, () -> x.cellar(0, 2));
        Check.due("set 9", 9, () -> x.cellar(0, 3));
        Check.due("step 9", 9, () -> x.cellar(0, 4));
        Check.due("sweet 0 and 11", 0x801, () -> x.count(6));
        Check.due("spill 100", 100, () -> x.count(7));
        Check.due("damp 100", 100, () -> x.count(8));
        Check.due("course 11", 11, () -> x.count(4));
        right(x, "salty 0;salty 11;salty 5;spill 0;damp 0;course 0");
        Check.due("all salty", 0, () -> x.count(6));
        Check.due("spill 0", 0, () -> x.count(7));
        Check.due("damp 0", 0, () -> x.count(8));
        Check.due("course 0", 0, () -> x.count(4));
    }

    /** "on a DIET or not (not at first)", "(0 at first)", "STEP ... (1 at first)", "(none at first)". */
    private static void valuesAtFirst() {
        SaltTable x = Check.table("diner taste 5 at 3;cellar b grains 4 at 3");
        Check.due("not on a diet", 0, () -> x.diner(0, 2));
        for (int trait = 0; trait < 6; trait++) {
            int t = trait;
            Check.due("has none of " + trait, 0, () -> x.has(0, t));
        }
        Check.due("set", 0, () -> x.cellar(0, 3));
        Check.due("step", 1, () -> x.cellar(0, 4));
        int[] counts = {1, 1, 1, -1, 0, 0, 0, 0, 0, 0, 4, 0, 0, 0};
        for (int what = 0; what < counts.length; what++) {
            int w = what;
            Check.due("count " + what + " at first", counts[what], () -> x.count(w));
        }
        Check.same("seed at first", "1", "" + Seen.seed(x));
        right(x, "cellar a grains 1 at 0 step 9;cellar a grains 1 at 0 set 9");
        Check.due("set at first beside a step", 0, () -> x.cellar(1, 3));
        Check.due("step at first behind a set", 1, () -> x.cellar(2, 4));
    }

    /** "Numbers are of 1 to 3 digits"; wrong is "a number of more digits". */
    private static void digits() {
        for (String five : List.of("5", "05", "005")) {
            SaltTable x = Check.table("damp " + five);
            Check.due("damp " + five, 5, () -> x.count(8));
        }
        for (String none : List.of("0005", "0000", "1000", "00000000000", "4294967301", "99999999999999999999")) {
            wrong(new SaltTable(), "damp " + none, 5);
            wrongLaw(new SaltTable(), "take " + none, 5);
            wrongLaw(new SaltTable(), "take 1 if " + none + " < 5", 10);
            wrongLaw(new SaltTable(), "take 1 if 5 < " + none, 14);
            wrongLaw(new SaltTable(), "take 1 if 5 < 4 + " + none, 18);
        }
        wrong(new SaltTable(), "damp 00 5", 8);
        wrong(new SaltTable(), "damp 100 0", 9);
    }

    /** "THE TABLE is told in texts (at most 12, ...)"; "UnsupportedOperationException: there are 12." */
    private static void twelveTexts() {
        SaltTable x = new SaltTable();
        for (int i = 1; i <= 11; i++) {
            right(x, i % 2 == 0 ? "" : "damp " + i);
            wrong(x, "damp", 4);
        }
        x.image();
        right(x, "damp 12");
        Check.due("twelve", 12, () -> x.count(2));
        x.courses(1);
        Check.feedText(x, "damp 13");
        Seen.unmovedButTape("a thirteenth", IS_FULL, x, x::table);
        Check.due("it has no wrong byte", -1, x::fault);
        Seen.unmovedButTape("an empty thirteenth", IS_FULL, x, x::table);
        wrong(x, "damp 13;", 8);
        wrong(x, "x", 0);
        Check.due("an act is still remembered", true, x::undo);
        rightLaw(x, "take 1", 1);
        Check.due("a law is no text of the table", 12, () -> x.count(2));
        x.back();
        Check.due("gone back to eleven", 11, () -> x.count(2));
        right(x, "damp 14");
        Check.due("damp 14", 14, () -> x.count(8));
        Seen.unmovedButTape("again a thirteenth", IS_FULL, x, x::table);
    }

    /** "LINE { ; LINE }, at most 14"; "of a LINE ... too many, the first word". */
    private static void fourteenLines() {
        SaltTable x = new SaltTable();
        String thirteen = joined(13, "damp 1");
        right(x, thirteen);
        right(x, thirteen + ";damp 2");
        Check.due("the fourteenth line stands", 2, () -> x.count(8));
        right(x, thirteen + ";damp 3  ");
        wrong(x, thirteen + ";damp 4;damp 5", 98);
        wrong(x, thirteen + ";damp 4;   damp", 101);
        wrong(x, thirteen + ";damp 4;", 98);
        wrong(x, thirteen + ";damp 4; ", 99);
        wrong(x, thirteen + ";damp 4 damp 5", 98);
        wrong(x, thirteen + ";damp 4;;", 98);
    }

    /** "LINE { ; LINE }, at most 12: take N [ if C ] | ...". */
    private static void twelveLawLines() {
        SaltTable x = Check.table("diner taste 0 at 0;cellar a grains 200 at 0");
        rightLaw(x, joined(11, "take 1"), 11);
        rightLaw(x, joined(12, "take 1"), 12);
        Check.due("all twelve take", 12, () -> x.cellar(0, 6));
        wrongLaw(x, joined(13, "take 1"), 84);
        wrongLaw(x, joined(12, "take 1") + ";  take", 86);
        wrongLaw(x, joined(12, "take 1") + ";", 84);
        wrongLaw(x, joined(12, "take 1") + "; ", 85);
        Check.due("the one before stays", 12, () -> x.cellar(0, 6));
    }

    /** "All numbers are of 1 to 3 digits (N 0 to 30)." */
    private static void boundsOfLawNumbers() {
        SaltTable x = Check.table("diner taste 0 at 0;cellar a grains 200 at 0");
        int[][] wants = {{0, 0, 1}, {1, 1, 1}, {29, 29, 1}, {30, 30, 1}};
        for (int[] want : wants) {
            rightLaw(x, "take " + want[0], 1);
            Check.due("take " + want[0], want[1], () -> x.cellar(0, 6));
            rightLaw(x, "set " + want[0], 1);
            Check.due("set " + want[0], 1 + want[0], () -> x.cellar(0, 7));
            rightLaw(x, "take 30;take 30;spare " + want[0], 3);
            Check.due("spare " + want[0], 60 - want[0], () -> x.cellar(0, 6));
        }
        rightLaw(x, "take 030", 1);
        for (String kind : List.of("take ", "spare ", "set ")) {
            for (String none : List.of("31", "031", "100", "999", "-1", "if", ";", "take")) {
                wrongLaw(x, kind + none, kind.length());
            }
        }
        rightLaw(x, "take 1 if 0 < 1;take 2 if 999 > 998;take 4 if 000 < 001;take 8 if 999 + 999 > 999", 4);
        Check.due("sums of 0 and of 999", 15, () -> x.cellar(0, 6));
        rightLaw(x, "take 1 if 0 < 0;take 2 if 999 > 999;take 4 if 999 < 999", 3);
        Check.due("neither is below or above itself", 0, () -> x.cellar(0, 6));
    }

    /** "THE LAW (a text, in place of the one before)". */
    private static void lawInPlaceOfAnother() {
        SaltTable x = Check.table("diner taste 1 at 0;cellar a grains 99 at 0");
        Check.due("none at first", -1, () -> x.count(3));
        rightLaw(x, "take 5;take 6;set 7", 3);
        rightLaw(x, "take 2", 1);
        Check.due("nothing of the one before takes", 3, () -> x.cellar(0, 6));
        Check.due("nor sets", 1, () -> x.cellar(0, 7));
        rightLaw(x, "set 5;set 7", 2);
        rightLaw(x, "set 1", 1);
        Check.due("nor does a line behind its last", 2, () -> x.cellar(0, 7));
        rightLaw(x, "", 0);
        Check.due("an empty one in its place", 1, () -> x.cellar(0, 6));
        Check.due("which sets by 1", 1, () -> x.cellar(0, 7));
        for (int i = 0; i < 30; i++) {
            rightLaw(x, "take 1 if not 1 < 0", 1);
        }
        Check.due("there is no limit of laws", 2, () -> x.cellar(0, 6));
    }

    /** "Words are as long as a to z go on"; wrong is "a word that is none". */
    private static void wordsAreLong() {
        SaltTable x = new SaltTable();
        for (String word : List.of("dinertaste", "dine", "diners", "dinera", "d", "a", "tastes", "cellara", "dampdamp",
                "Damp", "dampz", "zdamp", "z")) {
            wrong(x, word + " 1", 0);
        }
        wrong(x, "diner tasteat", 6);
        wrong(x, "diner taste 1 att 0", 14);
        wrong(x, "diner taste 1 at 0 diets", 19);
        wrong(x, "diner taste 1 at 0 dietdiet", 19);
        wrong(x, "diner taste 1 at 0diet diet", 23);
        wrong(x, "cellar agrains 1 at 0", 7);
        wrong(x, "cellar a grains 1 at 0 setstep 1", 23);
        wrong(x, "cellar a grains 1 at 0 set 1 steps 1", 29);
        wrong(x, "damP 1", 0);
        wrong(x, "dam p 1", 0);
        wrongLaw(x, "takes 1", 0);
        wrongLaw(x, "take 1 iflast", 7);
        wrongLaw(x, "take 1 if notlast", 10);
        wrongLaw(x, "take 1 if lastor diet", 10);
        wrongLaw(x, "take 1 if last ordiet", 15);
        wrongLaw(x, "take 1 if last anddiet", 15);
        wrongLaw(x, "take 1 if tastes < 1", 10);
        wrongLaw(x, "take 1 if las t", 10);
    }

    /** "between all there may be blanks (32), also ahead and behind." */
    private static void blanks() {
        SaltTable x = new SaltTable();
        right(x, "diner taste9at0diet;cellar a grains200at9set8step7;sweet11;spill100;damp99;course10");
        right(x, "  diner   taste  8  at  1  ;  cellar  b  grains  7  at  2  set  3  step  4  ;  salty  11  ");
        Check.due("two diners", 2, () -> x.count(0));
        Check.due("a diet without a blank", 1, () -> x.diner(0, 2));
        int[][] cellars = {{9, 0, 200, 8, 7}, {2, 1, 7, 3, 4}};
        for (int what = 0; what < 5; what++) {
            int w = what;
            Check.due("without blanks " + what, cellars[0][what], () -> x.cellar(0, w));
            Check.due("with blanks " + what, cellars[1][what], () -> x.cellar(1, w));
        }
        rightLaw(x, "take9if(1<2)and not(diet)or last;set2;spare3if 1+2>has+3", 3);
        rightLaw(x, "  take  9  if  (  1  <  2  )  and  not  (  diet  )  or  last  ;  set  2  if  1  +  2  >  has  ", 2);
        for (char other : new char[] {0, 9, 10, 13, 31, 33, 160, 255}) {
            wrong(x, "damp" + other + "1", 4);
            wrong(x, other + "damp 1", 0);
            wrong(x, "damp 1" + other, 6);
            wrongLaw(x, "take" + other + "1", 4);
            wrongLaw(x, "take 1 if last" + other, 14);
        }
    }

    /** "A text that is empty, or blanks alone, has no LINE." */
    private static void textsWithoutLines() {
        SaltTable x = new SaltTable();
        right(x, "");
        right(x, " ");
        right(x, " ".repeat(400));
        rightLaw(x, "", 0);
        rightLaw(x, " ", 0);
        rightLaw(x, " ".repeat(400), 0);
        wrong(x, ";", 0);
        wrong(x, "  ;", 2);
        wrongLaw(x, ";", 0);
        wrongLaw(x, " ; ", 1);
        wrong(x, "damp 1;;damp 1", 7);
        wrong(x, "damp 1; ;damp 1", 8);
        wrongLaw(x, "take 1;;take 1", 7);
    }

    /** "( and not within one another at most 6 deep"; wrong is "the ( or not that is a 7th one deep". */
    private static void sixDeep() {
        SaltTable x = Check.table("diner taste 0 at 0;cellar a grains 200 at 0");
        for (int inner = 0; inner <= 6; inner++) {
            String ahead = "take 1 if " + "not ".repeat(inner) + "(".repeat(6 - inner);
            String behind = ")".repeat(6 - inner);
            rightLaw(x, ahead + "1 < 2" + behind, 1);
            Check.due("by " + inner + " nots", inner % 2 == 0 ? 1 : 0, () -> x.cellar(0, 6));
            wrongLaw(x, ahead + "(1 < 2)" + behind, ahead.length());
            wrongLaw(x, ahead + "not 1 < 2" + behind, ahead.length());
            if (inner < 6) {
                wrongLaw(x, ahead + "1 < 2 and not 1 < 2" + behind, ahead.length() + 10);
                wrongLaw(x, ahead + "1 < 2 or (1 < 2)" + behind, ahead.length() + 9);
            }
        }
        rightLaw(x, "take 1 if not not not not not not 1 < 2 and not not not not not not 1 < 2", 1);
        rightLaw(x, "take 1 if ((((((1 < 2)))))) and ((((((1 < 2)))))) or not(not(not(1 < 2)))", 1);
        rightLaw(x, "take 1 if (((((1 < 2) and (1 < 2) or not 1 < 2))));take 1 if ((((((1 < 2))))))", 2);
    }

    /** "or the text's length, if more must come." */
    private static void moreMustCome() {
        for (String text : List.of("diner", "diner taste", "diner taste 1", "diner taste 1 at", "diner taste 1 at 0;", "cellar",
                "cellar a", "cellar a grains", "cellar a grains 1", "cellar a grains 1 at", "cellar a grains 1 at 0 set",
                "cellar a grains 1 at 0 set 1 step", "cellar a grains 1 at 0 step", "sweet", "salty", "spill", "damp", "course",
                "damp 1;", "damp 1;damp")) {
            wrong(new SaltTable(), text, text.length());
            wrong(new SaltTable(), text + "   ", text.length() + 3);
        }
        for (String text : List.of("take", "spare", "set", "take 1;", "take 1 if", "take 1 if not", "take 1 if (", "take 1 if (last",
                "take 1 if 1", "take 1 if has", "take 1 if 1 +", "take 1 if 1 <", "take 1 if 1 >", "take 1 if 1 < 2 +",
                "take 1 if last and", "take 1 if last or", "take 1 if (1 < 2", "take 1 if ((last)")) {
            wrongLaw(new SaltTable(), text, text.length());
            wrongLaw(new SaltTable(), text + "   ", text.length() + 3);
        }
    }

    /** "The first wrong byte: the begin of the first thing that cannot stand there". */
    private static void cannotStandThere() {
        SaltTable x = Check.table("diner taste 1 at 9");
        for (String ahead : List.of("", "diner", "diner taste", "diner taste 1", "diner taste 1 at", "diner taste 1 at 0",
                "diner taste 1 at 0 diet", "cellar", "cellar a", "cellar a grains", "cellar a grains 1", "cellar a grains 1 at",
                "cellar a grains 1 at 0", "cellar a grains 1 at 0 set", "cellar a grains 1 at 0 set 1",
                "cellar a grains 1 at 0 step", "cellar a grains 1 at 0 step 2", "sweet", "sweet 1", "salty", "spill", "damp",
                "course", "course 1", "damp 1;")) {
            for (String thing : List.of("x", "g", "1000", "0001", ":", "-1", "Diner", "take", "if", "(", "diner taste",
                    "diner;", "\u00ff")) {
                if (!(ahead.isEmpty() || ahead.endsWith(";")) || !thing.startsWith("diner")) {
                    wrong(x, ahead + "  " + thing + " x", ahead.length() + 2);
                }
            }
        }
        for (String ahead : List.of("", "take", "take 1", "take 1 if", "take 1 if not", "take 1 if (", "take 1 if 1", "take 1 if 1 +",
                "take 1 if 1 <", "take 1 if 1 > 2", "take 1 if last", "take 1 if last and", "take 1 if last or", "take 1 if (last",
                "take 1 if (last)", "take 1;")) {
            for (String thing : List.of("x", "a", "1000", ":", "-1", "=", "Take", "damp", "at", "step", "\u00ff")) {
                wrongLaw(x, ahead + "  " + thing + " ;", ahead.length() + 2);
            }
        }
        String[] texts = {"take 1 if 1 < last", "take 1 if last < 1", "take 1 if (1) < 2", "take 1 if not", "take 1 if ()",
            "take 1 if last)", "take 1 if 1 < 2 < 3", "take 1 if 1 < 2 > 3", "take 1 if 1 and 2", "take 1 if 1 + last < 3",
            "take 1 if and", "take 1 if < 2", "take 1 if + 1 < 2", "take 1 if if", "take 1 if last;if", "take 1 if (last;take 1)",
            "take 1 if 1 < (2)", "take 1 if 1 < not last"};
        int[] faults = {14, 15, 12, 13, 11, 14, 16, 16, 12, 14, 10, 10, 10, 10, 15, 15, 14, 14};
        for (int i = 0; i < texts.length; i++) {
            wrongLaw(x, texts[i], faults[i]);
        }
        wrong(x, "cellar a grains 1 at 0 step 1 set 1", 30);
        wrong(x, "cellar a grains 1 at 0 diet", 23);
        wrong(x, "diner taste 1 at 0 set 1", 19);
        wrong(x, "diner at 0 taste 1", 6);
    }

    /** "Of a wrong text nothing stays." */
    private static void nothingStaysOfWrongTexts() {
        SaltTable x = Check.law(Check.table("diner taste 1 at 0;cellar a grains 99 at 0;sweet 4"), "take 2;set 3");
        x.courses(2);
        wrong(x, "diner taste 2 at 5 diet;cellar b grains 7 at 3;sweet 1;salty 4;spill 50;damp 60;course 7;x", 89);
        wrong(x, "diner taste 2 at 5;cellar b grains 7 at 3 set 5 step", 52);
        wrong(x, "spill 50;damp 101", 14);
        wrong(x, "spill 101", 6);
        wrong(x, "course 12", 7);
        wrongLaw(x, "take 9;set 9;spare 9 if (last", 29);
        Check.due("acts stay", true, x::undo);
        Check.due("the law stays: pinch", 3, () -> x.cellar(0, 6));
        Check.due("the law stays: sets by", 4, () -> x.cellar(0, 7));
        right(x, "diner taste 3 at 5");
        Check.due("the seat of a wrong text is nobody's", 1, () -> x.seat(5));
    }

    /** "The first wrong byte of the latest text that was read; NONE without one, and ahead of any." */
    private static void faultOfLatest() {
        SaltTable x = new SaltTable();
        Check.due("ahead of any", -1, x::fault);
        x.image();
        wrong(x, "damp 1 x", 7);
        wrongLaw(x, "take 31", 5);
        right(x, "");
        wrongLaw(x, "take", 4);
        rightLaw(x, "", 0);
        wrong(x, "diner", 5);
        Check.due("bribes read no text", IS_WRONG, () -> Check.rows(x, 9, 9, 9).bribes(false));
        Check.due("nor does ask", -1, () -> Check.rows(x).ask(1));
        Check.due("the latest one's", 5, x::fault);
        x.courses(1);
        x.undo();
        Check.due("it is not undone", 5, x::fault);
        x.back();
        Check.due("it does not go back", 5, x::fault);
        SaltTable y = new SaltTable();
        wrong(y, " ".repeat(399) + "x", 399);
        wrong(y, "damp" + " ".repeat(396), 400);
        for (int at = 0; at < 400; at += at < 390 ? 15 : 1) {
            wrong(y, " ".repeat(at) + "x", at);
            wrongLaw(y, " ".repeat(at) + "x", at);
        }
        wrong(y, ";".repeat(400), 0);
        wrong(y, "damp 1;" + ";".repeat(393), 7);
        wrongLaw(y, "<".repeat(400), 0);
    }
}
