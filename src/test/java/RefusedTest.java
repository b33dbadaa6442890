import java.util.List;

/**
 * "Of several exceptions the one told first is thrown; a call that throws changes nothing but the TAPE, where it is used up."
 * Each call of the face with each argument that is none, and each call that asks: all is as it was.
 */
public final class RefusedTest {
    private static final int LEAST = Integer.MIN_VALUE;
    private static final int MOST = Integer.MAX_VALUE;
    private static final int[] NO_DINER = {-1, 3, 8, LEAST, MOST};
    private static final int[] NO_CELLAR = {-1, 2, 5, LEAST, MOST};
    private static final int[] NO_SEAT = {-1, 10, LEAST, MOST};
    private static final int[] NO_TRAIT = {-1, 6, LEAST, MOST};
    private static final int[] NO_COURSE = {-1, 12, LEAST, MOST};
    private static final int[] FAR = {-1, 201, LEAST, MOST};
    private static final int[] NEAR = {-1, 25, LEAST, MOST};
    private static final String INDEX = "throws.IndexOutOfBoundsException";
    private static final String ARGUMENT = "throws.IllegalArgumentException";
    private static final String ELEMENT = "throws.NoSuchElementException";

    private static SaltTable x;

    public static void main(String[] args) {
        x = Check.law(Check.table("diner taste 3 at 0;diner taste 5 at 1 diet;diner taste 2 at 4;cellar a grains 90 at 0;"
                + "cellar b grains 80 at 1 set 2 step 3;sweet 3;spill 30;damp 20"), "take 1 if has > 3;set 2");
        x.courses(15);
        Check.feedText(x, "take 1 x");
        Check.noArgument("a wrong law", x::law);
        String kept = Seen.of(x);
        x.image();
        x.knock(1);
        String ahead = Seen.of(x);
        x.pass(0, 7);
        Check.feedText(x, "damp 7");
        refusedWhats();
        refusedActs();
        refusedLooks();
        refusedAsks();
        firstToldOfTwo();
        asked();
        askedAheadOfCourses();
        Check.due("the act ahead of all that is undone", true, x::undo);
        Check.same("as ahead of it", ahead, Seen.of(x));
        Check.due("the image ahead of all that is gone back to", true, x::back);
        Check.same("as it was kept", kept, Seen.of(x));
        Check.due("the tape is what was fed", 2, x::table);
        Check.due("damp 7", 7, () -> x.count(8));
        Check.ends("RefusedTest");
    }

    /** "NoSuchElementException: another what." */
    private static void refusedWhats() {
        for (int what : new int[] {-1, 5, LEAST, MOST}) {
            Seen.unmoved("diner what " + what, ELEMENT, x, () -> x.diner(2, what));
            Seen.unmoved("log what " + what, ELEMENT, x, () -> x.log(0, what));
            Seen.unmoved("log of no row, what " + what, ELEMENT, x, () -> x.log(60, what));
        }
        for (int what : new int[] {-1, 8, LEAST, MOST}) {
            Seen.unmoved("cellar what " + what, ELEMENT, x, () -> x.cellar(1, what));
        }
    }

    private static void refusedActs() {
        for (int cellar : NO_CELLAR) {
            Seen.unmoved("pass of cellar " + cellar, INDEX, x, () -> x.pass(cellar, 3));
            Seen.unmoved("knock of cellar " + cellar, INDEX, x, () -> x.knock(cellar));
            Seen.unmoved("fill of cellar " + cellar, INDEX, x, () -> x.fill(cellar, 3));
        }
        for (int seat : NO_SEAT) {
            Seen.unmoved("pass to seat " + seat, INDEX, x, () -> x.pass(0, seat));
            Seen.unmoved("change of seat " + seat, INDEX, x, () -> x.change(seat, 0));
            Seen.unmoved("change with seat " + seat, INDEX, x, () -> x.change(0, seat));
        }
        for (int seat = 0; seat < 10; seat++) {
            int both = seat;
            Seen.unmoved("both are seat " + seat, ARGUMENT, x, () -> x.change(both, both));
        }
        for (int n : new int[] {0, -1, 201, LEAST, MOST}) {
            Seen.unmoved("fill of " + n, ARGUMENT, x, () -> x.fill(0, n));
        }
        for (int diner : NO_DINER) {
            Seen.unmoved("diet of diner " + diner, INDEX, x, () -> x.diet(diner, true));
            Seen.unmoved("no diet of diner " + diner, INDEX, x, () -> x.diet(diner, false));
        }
        for (int course : NO_COURSE) {
            Seen.unmoved("sweet course " + course, INDEX, x, () -> x.sweet(course, true));
            Seen.unmoved("salty course " + course, INDEX, x, () -> x.sweet(course, false));
        }
        for (int n : new int[] {0, -1, 101, LEAST, MOST}) {
            Seen.unmoved("courses of " + n, ARGUMENT, x, () -> x.courses(n));
        }
    }

    private static void refusedLooks() {
        for (int diner : NO_DINER) {
            Seen.unmoved("diner " + diner, INDEX, x, () -> x.diner(diner, 0));
            Seen.unmoved("has of diner " + diner, INDEX, x, () -> x.has(diner, 0));
            Seen.unmoved("takes of diner " + diner, INDEX, x, () -> x.takes(diner, 9));
            Seen.unmoved("share of diner " + diner, INDEX, x, () -> x.share(diner, 0));
            Seen.unmoved("alone of diner " + diner, INDEX, x, () -> x.alone(0, diner));
            Seen.unmoved("game of diner " + diner, INDEX, x, () -> x.game(diner));
            Seen.unmoved("meets of diner " + diner, INDEX, x, () -> x.meets(diner));
        }
        for (int cellar : NO_CELLAR) {
            Seen.unmoved("cellar " + cellar, INDEX, x, () -> x.cellar(cellar, 0));
            Seen.unmoved("frees of cellar " + cellar, INDEX, x, () -> x.frees(cellar));
            Seen.unmoved("goes of cellar " + cellar, INDEX, x, () -> x.goes(cellar, 9));
            Seen.unmoved("ahead of cellar " + cellar, INDEX, x, () -> x.ahead(cellar, 9));
            Seen.unmoved("fewest of cellar " + cellar, INDEX, x, () -> x.fewest(cellar, 9));
            Seen.unmoved("sentence of cellar " + cellar, INDEX, x, () -> x.sentence(cellar));
            Seen.unmoved("alone of cellar " + cellar, INDEX, x, () -> x.alone(cellar, 0));
            Seen.unmoved("led of cellar " + cellar, INDEX, x, () -> x.led(cellar, true));
            Seen.unmoved("rows led of cellar " + cellar, INDEX, x, () -> x.led(cellar, false));
        }
        for (int trait : NO_TRAIT) {
            Seen.unmoved("has of trait " + trait, INDEX, x, () -> x.has(0, trait));
            Seen.unmoved("worst of trait " + trait, INDEX, x, () -> x.worst(trait));
            Seen.unmoved("share of trait " + trait, INDEX, x, () -> x.share(0, trait));
        }
        for (int seat : NO_SEAT) {
            Seen.unmoved("seat " + seat, INDEX, x, () -> x.seat(seat));
        }
    }

    /** "IllegalArgumentException: N is none." */
    private static void refusedAsks() {
        for (int n : FAR) {
            Seen.unmoved("takes in " + n, ARGUMENT, x, () -> x.takes(0, n));
            Seen.unmoved("keenest in " + n, ARGUMENT, x, () -> x.keenest(n));
            Seen.unmoved("goes in " + n, ARGUMENT, x, () -> x.goes(0, n));
            Seen.unmoved("ahead by " + n, ARGUMENT, x, () -> x.ahead(0, n));
            Seen.unmoved("trial of " + n, ARGUMENT, x, () -> x.trial(n, false));
            Seen.unmoved("held by trial of " + n, ARGUMENT, x, () -> x.trial(n, true));
            Seen.unmoved("span of " + n, ARGUMENT, x, () -> x.span(n, false));
            Seen.unmoved("most of span of " + n, ARGUMENT, x, () -> x.span(n, true));
        }
        for (int n : NEAR) {
            Seen.unmoved("fewest by " + n, ARGUMENT, x, () -> x.fewest(0, n));
        }
        for (int n : new int[] {-1, 61, LEAST, MOST}) {
            Seen.unmoved("least of " + n, ARGUMENT, x, () -> x.least(n));
        }
        for (int n : new int[] {0, -1, 25, LEAST, MOST}) {
            Check.rows(x, 0, 0, x.cellar(0, 2));
            Seen.unmovedButTape("ask of " + n, ARGUMENT, x, () -> x.ask(n));
            Check.rows(x, 9);
            Seen.unmovedButTape("ask of wrong rows, too, of " + n, ARGUMENT, x, () -> x.ask(n));
        }
        Check.feedText(x, "damp 7");
    }

    /** "Of several exceptions the one told first is thrown". */
    private static void firstToldOfTwo() {
        Seen.unmoved("diner", INDEX, x, () -> x.diner(3, 5));
        Seen.unmoved("cellar", INDEX, x, () -> x.cellar(2, 8));
        Seen.unmoved("fill", INDEX, x, () -> x.fill(2, 0));
        Seen.unmoved("change", INDEX, x, () -> x.change(10, 10));
        Seen.unmoved("change below", INDEX, x, () -> x.change(-1, -1));
        Seen.unmoved("takes", INDEX, x, () -> x.takes(3, 201));
        Seen.unmoved("goes", INDEX, x, () -> x.goes(2, -1));
        Seen.unmoved("ahead", INDEX, x, () -> x.ahead(2, 201));
        Seen.unmoved("fewest", INDEX, x, () -> x.fewest(2, 25));
        SaltTable y = Check.table("", "", "", "", "", "", "", "", "", "", "", "");
        Check.feedText(y, "x");
        Seen.unmovedButTape("a wrong thirteenth text", ARGUMENT, y, y::table);
        Check.due("its wrong byte", 0, y::fault);
        Check.feedText(y, "damp 1");
        Seen.unmovedButTape("a right thirteenth text", "throws.UnsupportedOperationException", y, y::table);
    }

    /** Whom one asks about as bribed is not: nothing of a question comes into a course. */
    private static void askedAheadOfCourses() {
        SaltTable y = Check.table("diner taste 3 at 0;cellar a grains 99 at 0;diner taste 3 at 1;cellar b grains 99 at 1 step 9");
        Check.rows(y).bribes(true);
        Check.due("courses behind bribes", 6, () -> y.courses(1));
        Check.rows(y).ask(24);
        Check.due("courses behind ask", 6, () -> y.courses(1));
        y.undo();
        Check.rows(y).ask(24);
        Check.due("takes behind ask", 3, () -> y.takes(1, 1));
        Check.rows(y).ask(24);
        Check.due("trial behind ask", 3, () -> y.trial(1, true));
        Check.rows(y).ask(24);
        Check.due("its pinch behind ask", 3, () -> y.cellar(0, 6));
        y.trial(200, true);
        y.fewest(0, 24);
        Check.due("courses behind a trial and fewest", 6, () -> y.courses(1));
    }

    /** Who asks changes nothing: of AHEAD and TRIAL "nothing stays". */
    private static void asked() {
        int before = Seen.tape(x);
        String seen = Seen.of(x) + x.count(13) + x.fault();
        for (int n : List.of(0, 1, 24)) {
            x.takes(0, n);
            x.keenest(n);
            x.goes(0, n);
            x.ahead(1, n);
            x.fewest(0, n);
            x.least(n);
            x.trial(n, true);
            x.trial(n, false);
            x.span(n, true);
            x.span(n, false);
        }
        for (int d = 0; d < 3; d++) {
            x.game(d);
            x.meets(d);
            x.share(d, 0);
            x.alone(0, d);
        }
        for (int c = 0; c < 2; c++) {
            x.frees(c);
            x.sentence(c);
            x.led(c, true);
            x.led(c, false);
        }
        x.all();
        x.held();
        x.swap();
        x.worst(0);
        x.alike();
        x.whole();
        x.fair();
        x.crowd();
        x.gaps();
        Check.same("none of these calls changed a thing", seen, Seen.of(x) + x.count(13) + x.fault());
        Check.same("the tape, too", "" + before, "" + Seen.tape(x));
    }
}
