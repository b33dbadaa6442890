import java.util.Arrays;
import java.util.NoSuchElementException;

/** A royal table at which salt cellars are the prison; the document tells what each call answers. */
public final class SaltTable {
    public static final int NONE = -1;

    private static final int SEATS = 10;
    private static final int DINERS = 8;
    private static final int CELLARS = 5;
    private static final int TRAITS = 6;
    private static final int COURSES = 12;
    private static final int HAS_MOST = 999;
    private static final int GRAINS_MOST = 200;
    private static final int SET_MOST = 9;
    private static final int TOTAL_MOST = 9999;
    private static final int TAPE_ROOM = 400;
    private static final int TEXTS = 12;
    private static final int TABLE_LINES = 14;
    private static final int LAW_LINES = 12;
    private static final int LAW_MOST = 30;
    private static final int DEPTH_MOST = 6;
    private static final int LOG_ROWS = 60;
    private static final int ACTS = 12;
    private static final int COURSES_MOST = 100;
    private static final int FAR = 200;
    private static final int NEAR = 24;
    private static final int LEAST_MOST = 60;
    private static final int SPAN_SEEDS = 6;
    // The document's "at most 12" counts bytes here: four rows of three.
    private static final int BRIBE_BYTES = 12;
    private static final int BRIBE_ROW = 3;
    private static final int BRIBED_MOST = 2;
    // None, one or two of eight diners.
    private static final int BRIBE_SETS = 37;
    // Seats come round in 10 courses and the menu in 12: what is idle for 60 is idle for ever.
    private static final int ROUND = 60;

    // The places of the words in WORDS, behind all bytes, which stand for themselves as signs.
    private static final int FIRST_WORD = 256;
    private static final int DINER = 256;
    private static final int TASTE = 257;
    private static final int AT = 258;
    private static final int DIET = 259;
    private static final int CELLAR = 260;
    private static final int GRAINS = 261;
    private static final int SET = 262;
    private static final int STEP = 263;
    private static final int SWEET = 264;
    private static final int SALTY = 265;
    private static final int SPILL = 266;
    private static final int DAMP = 267;
    private static final int COURSE = 268;
    private static final int TAKE = 269;
    private static final int SPARE = 270;
    private static final int IF = 271;
    private static final int OR = 272;
    private static final int AND = 273;
    private static final int NOT = 274;
    private static final int LAST = 275;
    private static final int HAS = 276;
    private static final String WORDS =
            "diner taste at diet cellar grains set step sweet salty spill damp course take spare if or and not last has ";
    private static final int LETTER = 300;
    private static final int NUMBER = 301;
    private static final int OTHER = 302;
    private static final int END = 303;
    // Steps of the law's code that no word stands for; all steps lie above any number of the law.
    private static final int STEPS = 1000;
    private static final int LEFT_DONE = 1001;
    private static final int LESS = 1002;
    private static final int MORE = 1003;

    private final Tape tape = new Tape();
    private final Text text = new Text();
    private final Table live = new Table();
    private final Table work = new Table();
    private final Law law = new Law();
    private final Law newLaw = new Law();
    private final PinchLog pinches = new PinchLog();
    private final Service service = new Service();
    private final Moment[] moments = new Moment[ACTS];
    private int nextMoment = 0;
    private int remembered = 0;
    private final Moment kept = new Moment();
    private final Law keptLaw = new Law();
    private boolean isKept = false;
    private int wrongByte = NONE;
    private final int[] told = new int[BRIBE_BYTES];
    private int toldBytes = 0;
    private final int[] parted = new int[BRIBE_SETS * CELLARS];
    private final int[] tally = new int[GRAINS_MOST + 1];

    public SaltTable() {
        for (int i = 0; i < ACTS; i++) {
            moments[i] = new Moment();
        }
    }

    // ---- the tape and the texts

    public int feed(int a, int b, int c, int d, int e) {
        if (tape.length + 20 > TAPE_ROOM) {
            return NONE;
        }
        tape.adds(a);
        tape.adds(b);
        tape.adds(c);
        tape.adds(d);
        tape.adds(e);
        return tape.length;
    }

    public boolean end(int n) {
        if (n < 0 || n > tape.length) {
            return false;
        }
        tape.length = n;
        return true;
    }

    public int table() throws IllegalArgumentException, UnsupportedOperationException {
        work.copies(live);
        text.cuts(tape);
        tape.length = 0;
        boolean right = TableReader.reads(text, work);
        wrongByte = right ? NONE : text.begin();
        if (!right) {
            throw new IllegalArgumentException("the text is wrong");
        }
        if (live.texts >= TEXTS) {
            throw new UnsupportedOperationException("there are 12 texts");
        }
        work.texts++;
        live.copies(work);
        remembered = 0;
        return live.texts;
    }

    public int law() throws IllegalArgumentException {
        text.cuts(tape);
        tape.length = 0;
        boolean right = LawReader.reads(text, newLaw);
        wrongByte = right ? NONE : text.begin();
        if (!right) {
            throw new IllegalArgumentException("the text is wrong");
        }
        law.copies(newLaw);
        remembered = 0;
        return law.lines;
    }

    public int fault() {
        return wrongByte;
    }

    // ---- who and what is at the table

    public int diner(int diner, int what) throws IndexOutOfBoundsException, NoSuchElementException {
        needsDiner(diner);
        needsWhat(what, 4);
        switch (what) {
            case 0: return live.seatOf(diner);
            case 1: return live.taste[diner];
            case 2: return live.isOnDiet(diner) ? 1 : 0;
            case 3: return live.mixed(diner);
            default: return live.hasInAll(diner);
        }
    }

    public int has(int diner, int trait) throws IndexOutOfBoundsException {
        needsDiner(diner);
        needsTrait(trait);
        return live.hasOf(diner, trait);
    }

    public int cellar(int cellar, int what) throws IndexOutOfBoundsException, NoSuchElementException {
        needsCellar(cellar);
        needsWhat(what, 7);
        switch (what) {
            case 0: return live.place[cellar];
            case 1: return live.trait[cellar];
            case 2: return live.grains[cellar];
            case 3: return live.set[cellar];
            case 4: return live.step[cellar];
            case 5: return live.dinerAt(live.place[cellar]);
            case 6: return pinchNow(cellar);
            default: return setsByNow(cellar);
        }
    }

    private int pinchNow(int cellar) {
        int diner = live.dinerAt(live.place[cellar]);
        if (diner == NONE) {
            return 0;
        }
        service.facts.tell(live, cellar, diner);
        return law.pinch(service.facts);
    }

    private int setsByNow(int cellar) {
        int diner = live.dinerAt(live.place[cellar]);
        if (diner == NONE) {
            return 0;
        }
        service.facts.tell(live, cellar, diner);
        return law.setsBy(service.facts);
    }

    public int seat(int seat) throws IndexOutOfBoundsException {
        needsSeat(seat);
        return live.dinerAt(seat);
    }

    // ---- acts

    public int pass(int cellar, int seat) throws IndexOutOfBoundsException {
        needsCellar(cellar);
        needsSeat(seat);
        remember();
        int was = live.place[cellar];
        live.place[cellar] = seat;
        return was;
    }

    public int knock(int cellar) throws IndexOutOfBoundsException {
        needsCellar(cellar);
        remember();
        int was = live.set[cellar];
        live.set[cellar] = 0;
        return was;
    }

    public int fill(int cellar, int n) throws IndexOutOfBoundsException, IllegalArgumentException {
        needsCellar(cellar);
        needsWithin(n, 1, GRAINS_MOST);
        remember();
        live.grains[cellar] = Math.min(GRAINS_MOST, live.grains[cellar] + n);
        return live.grains[cellar];
    }

    public int change(int seat, int other) throws IndexOutOfBoundsException, IllegalArgumentException {
        needsSeat(seat);
        needsSeat(other);
        if (seat == other) {
            throw new IllegalArgumentException("both seats are one");
        }
        remember();
        live.changesAbout(seat, other);
        return live.dinerAt(seat);
    }

    public boolean diet(int diner, boolean is) throws IndexOutOfBoundsException {
        needsDiner(diner);
        remember();
        boolean was = live.isOnDiet(diner);
        live.diets = is ? live.diets | 1 << diner : live.diets & ~(1 << diner);
        return was != is;
    }

    public boolean sweet(int course, boolean is) throws IndexOutOfBoundsException {
        if (course < 0 || course >= COURSES) {
            throw new IndexOutOfBoundsException("there is no such course");
        }
        remember();
        int was = live.menu;
        live.serves(course, is);
        return live.menu != was;
    }

    public int courses(int n) throws IllegalArgumentException {
        needsWithin(n, 1, COURSES_MOST);
        remember();
        service.opens(0);
        int taken = 0;
        for (int i = 0; i < n; i++) {
            taken += service.goesBy(live, law, pinches);
        }
        return taken;
    }

    // ---- what lies ahead

    public int frees(int cellar) throws IndexOutOfBoundsException {
        needsCellar(cellar);
        looksAhead();
        return untilFree(1 << cellar, FAR);
    }

    public int all() {
        looksAhead();
        return untilFree(work.heldCellars(), FAR);
    }

    public int held() {
        return live.heldCellars();
    }

    public int takes(int diner, int n) throws IndexOutOfBoundsException, IllegalArgumentException {
        needsDiner(diner);
        needsWithin(n, 0, FAR);
        looksAheadBy(n);
        return service.taken[diner];
    }

    public int keenest(int n) throws IllegalArgumentException {
        needsWithin(n, 0, FAR);
        looksAheadBy(n);
        int keenest = NONE;
        int most = NONE;
        for (int diner = 0; diner < live.diners; diner++) {
            if (service.taken[diner] > most) {
                most = service.taken[diner];
                keenest = diner;
            }
        }
        return keenest;
    }

    public int goes(int cellar, int n) throws IndexOutOfBoundsException, IllegalArgumentException {
        needsCellar(cellar);
        needsWithin(n, 0, FAR);
        return (live.place[cellar] + n * live.step[cellar]) % SEATS;
    }

    public int ahead(int cellar, int n) throws IndexOutOfBoundsException, IllegalArgumentException {
        needsCellar(cellar);
        needsWithin(n, 0, FAR);
        looksAheadBy(n);
        return work.grains[cellar];
    }

    public int swap() {
        looksAhead();
        int now = untilFree(work.heldCellars(), FAR);
        int soonest = now == NONE ? FAR + 1 : now;
        int swap = NONE;
        for (int lesser = 0; lesser < SEATS; lesser++) {
            for (int greater = lesser + 1; greater < SEATS; greater++) {
                if (live.dinerAt(lesser) == NONE && live.dinerAt(greater) == NONE) {
                    continue;
                }
                looksAhead();
                work.changesAbout(lesser, greater);
                int until = untilFree(work.heldCellars(), soonest - 1);
                if (until != NONE) {
                    soonest = until;
                    swap = 10 * lesser + greater;
                }
            }
        }
        return swap;
    }

    public int fewest(int cellar, int n) throws IndexOutOfBoundsException, IllegalArgumentException {
        needsCellar(cellar);
        needsWithin(n, 0, NEAR);
        int everybody = (1 << live.diners) - 1;
        for (int size = 0; size <= live.diners; size++) {
            for (int set = 0; set <= everybody; set++) {
                if (Integer.bitCount(set) != size) {
                    continue;
                }
                looksAhead();
                work.diets = everybody & ~set;
                if (untilFree(1 << cellar, n) != NONE) {
                    return set;
                }
            }
        }
        return NONE;
    }

    // ---- bribed spoons

    public int bribes(boolean sure) throws IllegalArgumentException {
        needsBribeRows(takesBribeRows());
        int sets = 0;
        int inAll = (1 << live.diners) - 1;
        for (int set = 0; set < 1 << live.diners; set++) {
            if (Integer.bitCount(set) <= BRIBED_MOST && fits(set, 0, 0)) {
                sets++;
                inAll &= set;
            }
        }
        if (!sure) {
            return sets;
        }
        return sets == 0 ? 0 : inAll;
    }

    public int ask(int n) throws IllegalArgumentException {
        needsBribeRows(takesBribeRows());
        needsWithin(n, 1, NEAR);
        int sets = 0;
        for (int set = 0; set < 1 << live.diners; set++) {
            if (Integer.bitCount(set) <= BRIBED_MOST && fits(set, n, sets)) {
                sets++;
            }
        }
        if (sets < 2) {
            return NONE;
        }
        int asked = NONE;
        int least = sets + 1;
        for (int cellar = 0; cellar < live.cellars; cellar++) {
            int part = greatestPart(cellar, sets);
            if (part < least) {
                least = part;
                asked = cellar;
            }
        }
        return asked;
    }

    /** Moves the rows from the tape, which is used up whatever they are. */
    private boolean takesBribeRows() {
        int bytes = tape.length;
        tape.length = 0;
        toldBytes = 0;
        if (bytes > BRIBE_BYTES || bytes % BRIBE_ROW != 0) {
            return false;
        }
        for (int i = 0; i < bytes; i++) {
            told[i] = tape.bytes[i];
        }
        for (int i = 0; i + 2 < bytes; i += BRIBE_ROW) {
            if (told[i] >= live.cellars || told[i + 1] > NEAR) {
                return false;
            }
        }
        toldBytes = bytes;
        return true;
    }

    private void needsBribeRows(boolean right) {
        if (!right) {
            throw new IllegalArgumentException("the tape is not of rows");
        }
    }

    /** Whether all told rows hold with these bribed; keeps the grains by n courses as that set's row. */
    private boolean fits(int bribed, int n, int row) {
        looksAhead();
        service.opens(bribed);
        int last = Math.max(n, latestTold());
        for (int gone = 0; gone <= last; gone++) {
            if (!asTold(gone)) {
                return false;
            }
            if (gone == n) {
                keepsParted(row);
            }
            if (gone < last) {
                service.goesAhead(work, law);
            }
        }
        return true;
    }

    private int latestTold() {
        int latest = 0;
        for (int i = 0; i + 2 < toldBytes; i += BRIBE_ROW) {
            latest = Math.max(latest, told[i + 1]);
        }
        return latest;
    }

    private boolean asTold(int gone) {
        for (int i = 0; i + 2 < toldBytes; i += BRIBE_ROW) {
            int cellar = told[i];
            if (told[i + 1] == gone && cellar >= 0 && cellar < CELLARS && work.grains[cellar] != told[i + 2]) {
                return false;
            }
        }
        return true;
    }

    private void keepsParted(int row) {
        if (row < 0 || row >= BRIBE_SETS) {
            return;
        }
        for (int cellar = 0; cellar < work.cellars; cellar++) {
            parted[row * CELLARS + cellar] = work.grains[cellar];
        }
    }

    private int greatestPart(int cellar, int sets) {
        Arrays.fill(tally, 0);
        int greatest = 0;
        for (int row = 0; row < sets && row < BRIBE_SETS; row++) {
            int grains = parted[row * CELLARS + cellar];
            if (grains >= 0 && grains <= GRAINS_MOST) {
                tally[grains]++;
                greatest = Math.max(greatest, tally[grains]);
            }
        }
        return greatest;
    }

    // ---- who has what

    public int worst(int trait) throws IndexOutOfBoundsException {
        needsTrait(trait);
        int worst = NONE;
        int most = 0;
        for (int diner = 0; diner < live.diners; diner++) {
            if (live.hasOf(diner, trait) > most) {
                most = live.hasOf(diner, trait);
                worst = diner;
            }
        }
        return worst;
    }

    public int alike() {
        int pairs = 0;
        for (int diner = 0; diner < live.diners; diner++) {
            int main = live.mainTrait(diner);
            for (int other = diner + 1; other < live.diners; other++) {
                if (main != NONE && main == live.mainTrait(other)) {
                    pairs++;
                }
            }
        }
        return pairs;
    }

    public int share(int diner, int trait) throws IndexOutOfBoundsException {
        needsDiner(diner);
        needsTrait(trait);
        int together = 0;
        for (int other = 0; other < live.diners; other++) {
            together += live.hasOf(other, trait);
        }
        return together <= 0 ? 0 : 100 * live.hasOf(diner, trait) / together;
    }

    public int whole() {
        int whole = live.spilt + live.grainsInAll();
        for (int diner = 0; diner < live.diners; diner++) {
            whole += live.hasInAll(diner);
        }
        return whole;
    }

    // ---- sentences, games, rows of seats

    public int sentence(int cellar) throws IndexOutOfBoundsException {
        needsCellar(cellar);
        return takingsTillGone(cellar);
    }

    private int takingsTillGone(int cellar) {
        int grains = live.grains[cellar];
        int takings = 0;
        // A round takes a grain at least or none ever will, so 200 rounds are enough.
        for (int round = 0; round < GRAINS_MOST && grains > 0; round++) {
            for (int diner = 0; diner < live.diners && grains > 0; diner++) {
                grains -= live.taste[diner];
                takings++;
            }
        }
        return grains > 0 ? NONE : takings;
    }

    public int alone(int cellar, int diner) throws IndexOutOfBoundsException {
        needsCellar(cellar);
        needsDiner(diner);
        Facts facts = service.facts;
        facts.tell(live, cellar, diner);
        for (int n = 0; n <= GRAINS_MOST; n++) {
            if (facts.grains <= 0) {
                return n;
            }
            int pinch = law.pinch(facts);
            if (pinch <= 0) {
                return NONE;
            }
            facts.grains -= pinch;
            facts.has = Math.min(HAS_MOST, facts.has + pinch);
        }
        return NONE;
    }

    public boolean fair() {
        int first = NONE;
        boolean any = false;
        for (int cellar = 0; cellar < live.cellars; cellar++) {
            if (live.grains[cellar] <= 0) {
                continue;
            }
            int takings = takingsTillGone(cellar);
            if (any && takings != first) {
                return false;
            }
            any = true;
            first = takings;
        }
        return true;
    }

    public int game(int diner) throws IndexOutOfBoundsException {
        needsDiner(diner);
        int cellar = live.firstHeldAt(live.seatOf(diner));
        if (cellar == NONE) {
            return NONE;
        }
        int steady = 0;
        for (int choice = 0; choice < 4; choice++) {
            boolean cookStays = cookHas(choice, cellar, diner) >= cookHas(choice ^ 2, cellar, diner);
            boolean dinerStays = dinerHas(choice, cellar, diner) >= dinerHas(choice ^ 1, cellar, diner);
            if (cookStays && dinerStays) {
                steady |= 1 << choice;
            }
        }
        return steady;
    }

    private int cookHas(int choice, int cellar, int diner) {
        Facts facts = service.facts;
        facts.tell(live, cellar, diner);
        facts.sweet = (choice & 2) == 0;
        facts.diet = (choice & 1) == 0;
        return law.pinch(facts);
    }

    private int dinerHas(int choice, int cellar, int diner) {
        if ((choice & 1) == 0) {
            return 2;
        }
        return cookHas(choice, cellar, diner) > 0 ? live.taste[diner] : 0;
    }

    public int crowd() {
        int crowd = NONE;
        int most = 0;
        for (int seat = 0; seat < SEATS; seat++) {
            int held = Integer.bitCount(live.heldAt(seat));
            if (held > most) {
                most = held;
                crowd = seat;
            }
        }
        return crowd;
    }

    public int gaps() {
        int gaps = 0;
        for (int seat = 0; seat < SEATS; seat++) {
            if (live.dinerAt(seat) == NONE) {
                gaps |= 1 << seat;
            }
        }
        return gaps;
    }

    public int meets(int diner) throws IndexOutOfBoundsException {
        needsDiner(diner);
        looksAhead();
        int seat = live.seatOf(diner);
        int meets = 0;
        for (int gone = 0; gone < COURSES; gone++) {
            meets |= work.heldAt(seat);
            service.goesAhead(work, law);
        }
        return meets;
    }

    public int least(int n) throws IllegalArgumentException {
        needsWithin(n, 0, LEAST_MOST);
        looksAhead();
        int first = 0;
        int fewest = service.goesAhead(work, law);
        for (int gone = 1; gone <= n; gone++) {
            int taken = service.goesAhead(work, law);
            if (taken < fewest) {
                fewest = taken;
                first = gone;
            }
        }
        return first;
    }

    // ---- trials

    public int trial(int n, boolean held) throws IllegalArgumentException {
        needsWithin(n, 0, FAR);
        tries(n, live.seed);
        return held ? work.heldCellars() : work.spilt;
    }

    public int span(int n, boolean most) throws IllegalArgumentException {
        needsWithin(n, 0, FAR);
        int least = TOTAL_MOST;
        int greatest = 0;
        for (int seed = 1; seed <= SPAN_SEEDS; seed++) {
            tries(n, seed);
            least = Math.min(least, work.spilt);
            greatest = Math.max(greatest, work.spilt);
        }
        return most ? greatest : least;
    }

    private void tries(int n, int seed) {
        looksAhead();
        work.seed = seed;
        for (int i = 0; i < n; i++) {
            service.goesBy(work, law, null);
        }
    }

    // ---- the log, the seed, acts undone, the image

    public int led(int cellar, boolean dinner) throws IndexOutOfBoundsException {
        needsCellar(cellar);
        return dinner ? pinches.latestDinnerOf(cellar) : pinches.rowsOf(cellar);
    }

    public int log(int ago, int what) throws NoSuchElementException {
        needsWhat(what, 4);
        return pinches.tells(ago, what);
    }

    public int seed(int n) {
        int was = live.seed;
        live.seed = n;
        return was;
    }

    public boolean undo() {
        int latest = (nextMoment + ACTS - 1) % ACTS;
        if (remembered <= 0 || latest < 0 || moments[latest] == null) {
            return false;
        }
        moments[latest].returns(live, pinches);
        nextMoment = latest;
        remembered--;
        return true;
    }

    public void image() {
        kept.keeps(live, pinches);
        keptLaw.copies(law);
        isKept = true;
    }

    public boolean back() {
        if (!isKept) {
            return false;
        }
        kept.returns(live, pinches);
        law.copies(keptLaw);
        remembered = 0;
        return true;
    }

    public int count(int what) {
        switch (what) {
            case 0: return live.diners;
            case 1: return live.cellars;
            case 2: return live.texts;
            case 3: return law.isTold ? law.lines : NONE;
            case 4: return live.course;
            case 5: return live.dinner;
            case 6: return live.menu;
            case 7: return live.spill;
            case 8: return live.damp;
            case 9: return live.spilt;
            case 10: return live.grainsInAll();
            case 11: return live.diets;
            case 12: return pinches.rows;
            case 13: return remembered;
            default: return NONE;
        }
    }

    // ---- what the calls need

    private void needsDiner(int diner) {
        if (diner < 0 || diner >= live.diners) {
            throw new IndexOutOfBoundsException("there is no such diner");
        }
    }

    private void needsCellar(int cellar) {
        if (cellar < 0 || cellar >= live.cellars) {
            throw new IndexOutOfBoundsException("there is no such cellar");
        }
    }

    private void needsSeat(int seat) {
        if (seat < 0 || seat >= SEATS) {
            throw new IndexOutOfBoundsException("there is no such seat");
        }
    }

    private void needsTrait(int trait) {
        if (trait < 0 || trait >= TRAITS) {
            throw new IndexOutOfBoundsException("there is no such trait");
        }
    }

    private void needsWhat(int what, int most) {
        if (what < 0 || what > most) {
            throw new NoSuchElementException("there is no such what");
        }
    }

    private void needsWithin(int n, int least, int most) {
        if (n < least || n > most) {
            throw new IllegalArgumentException("the number is none");
        }
    }

    private void remember() {
        if (nextMoment < 0 || nextMoment >= ACTS || moments[nextMoment] == null) {
            return;
        }
        moments[nextMoment].keeps(live, pinches);
        nextMoment = (nextMoment + 1) % ACTS;
        remembered = Math.min(ACTS, remembered + 1);
    }

    // ---- looking ahead, at the work table, where nothing stays

    private void looksAhead() {
        work.copies(live);
        service.opens(0);
    }

    private void looksAheadBy(int n) {
        looksAhead();
        for (int i = 0; i < n; i++) {
            service.goesAhead(work, law);
        }
    }

    /** The first number of courses, most at most, by which all these cellars are free at the work table. */
    private int untilFree(int cellars, int most) {
        int idle = 0;
        for (int gone = 0; gone <= most; gone++) {
            if ((work.heldCellars() & cellars) == 0) {
                return gone;
            }
            if (gone == most || idle >= ROUND) {
                return NONE;
            }
            idle = service.goesAhead(work, law) > 0 ? 0 : idle + 1;
        }
        return NONE;
    }

    /** The bytes that a text or rows are read from. */
    private static final class Tape {
        final int[] bytes = new int[TAPE_ROOM];
        int length = 0;

        void adds(int number) {
            for (int shift = 24; shift >= 0 && length < TAPE_ROOM; shift -= 8) {
                bytes[length] = number >>> shift & 255;
                length++;
            }
        }

        int byteAt(int at) {
            return at >= 0 && at < length ? bytes[at] : NONE;
        }
    }

    /** A text cut into things (words, letters, numbers, signs), read one behind another. */
    private static final class Text {
        final int[] kinds = new int[TAPE_ROOM + 1];
        final int[] begins = new int[TAPE_ROOM + 1];
        final int[] values = new int[TAPE_ROOM + 1];
        int things = 0;
        int at = 0;

        void cuts(Tape tape) {
            things = 0;
            at = 0;
            int from = 0;
            for (int i = 0; i < TAPE_ROOM && from < tape.length; i++) {
                from = cutsOne(tape, from);
            }
            adds(END, tape.length, 0);
        }

        /** Cuts the thing, or passes the blank, that begins there; answers where the next one begins. */
        private int cutsOne(Tape tape, int from) {
            int first = tape.byteAt(from);
            if (first >= 'a' && first <= 'z') {
                return cutsWord(tape, from);
            }
            if (first >= '0' && first <= '9') {
                return cutsNumber(tape, from);
            }
            if (first != ' ') {
                adds(first, from, 0);
            }
            return from + 1;
        }

        private int cutsWord(Tape tape, int from) {
            int to = from;
            while (to < tape.length && tape.byteAt(to) >= 'a' && tape.byteAt(to) <= 'z') {
                to++;
            }
            int letter = tape.byteAt(from) - 'a';
            if (to == from + 1 && letter < TRAITS) {
                adds(LETTER, from, letter);
            } else {
                adds(wordOf(tape, from, to), from, 0);
            }
            return to;
        }

        private int wordOf(Tape tape, int from, int to) {
            int word = FIRST_WORD;
            int same = from;
            for (int i = 0; i < WORDS.length(); i++) {
                int sign = WORDS.charAt(i);
                if (sign == ' ') {
                    if (same == to) {
                        return word;
                    }
                    word++;
                    same = from;
                } else {
                    // Past the end no letter can bring a word that differs back.
                    same = same < to && tape.byteAt(same) == sign ? same + 1 : TAPE_ROOM + 1;
                }
            }
            return OTHER;
        }

        private int cutsNumber(Tape tape, int from) {
            int to = from;
            int value = 0;
            while (to < tape.length && tape.byteAt(to) >= '0' && tape.byteAt(to) <= '9') {
                if (to < from + 3) {
                    value = 10 * value + tape.byteAt(to) - '0';
                }
                to++;
            }
            adds(to > from + 3 ? OTHER : NUMBER, from, value);
            return to;
        }

        private void adds(int kind, int begin, int value) {
            if (things <= TAPE_ROOM) {
                kinds[things] = kind;
                begins[things] = begin;
                values[things] = value;
                things++;
            }
        }

        /** The end is a thing that nobody eats, so there always is a next one. */
        int kind() {
            return at >= 0 && at <= TAPE_ROOM ? kinds[at] : END;
        }

        int begin() {
            return at >= 0 && at <= TAPE_ROOM ? begins[at] : NONE;
        }

        boolean eats(int kind) {
            if (at < 0 || at > TAPE_ROOM || kinds[at] != kind) {
                return false;
            }
            at++;
            return true;
        }

        /** NONE, and nothing is eaten, if the next thing is no such number. */
        int eatsNumber(int least, int most) {
            if (at < 0 || at > TAPE_ROOM || kinds[at] != NUMBER || values[at] < least || values[at] > most) {
                return NONE;
            }
            int value = values[at];
            at++;
            return value;
        }

        int eatsLetter() {
            if (at < 0 || at > TAPE_ROOM || kinds[at] != LETTER) {
                return NONE;
            }
            int value = values[at];
            at++;
            return value;
        }
    }

    /** Reads a text into a table; at a false answer the text stands at its first wrong thing. */
    private static final class TableReader {
        static boolean reads(Text text, Table table) {
            if (text.kind() == END) {
                return true;
            }
            for (int line = 0; line < TABLE_LINES; line++) {
                if (!readsLine(text, table)) {
                    return false;
                }
                if (text.kind() == END) {
                    return true;
                }
                if (!text.eats(';')) {
                    return false;
                }
            }
            return false;
        }

        private static boolean readsLine(Text text, Table table) {
            if (table.diners < DINERS && text.eats(DINER)) {
                return readsDiner(text, table);
            }
            if (table.cellars < CELLARS && text.eats(CELLAR)) {
                return readsCellar(text, table);
            }
            if (text.eats(SWEET)) {
                return readsServed(text, table, true);
            }
            if (text.eats(SALTY)) {
                return readsServed(text, table, false);
            }
            if (text.eats(SPILL)) {
                table.spill = text.eatsNumber(0, 100);
                return table.spill != NONE;
            }
            if (text.eats(DAMP)) {
                table.damp = text.eatsNumber(0, 100);
                return table.damp != NONE;
            }
            if (text.eats(COURSE)) {
                table.course = text.eatsNumber(0, COURSES - 1);
                return table.course != NONE;
            }
            return false;
        }

        private static boolean readsDiner(Text text, Table table) {
            if (!text.eats(TASTE)) {
                return false;
            }
            int taste = text.eatsNumber(0, 9);
            if (taste == NONE || !text.eats(AT)) {
                return false;
            }
            int begin = text.at;
            int seat = text.eatsNumber(0, SEATS - 1);
            if (seat == NONE) {
                return false;
            }
            if (table.dinerAt(seat) != NONE) {
                text.at = begin;
                return false;
            }
            table.sits(seat, taste, text.eats(DIET));
            return true;
        }

        private static boolean readsCellar(Text text, Table table) {
            int trait = text.eatsLetter();
            if (trait == NONE || !text.eats(GRAINS)) {
                return false;
            }
            int grains = text.eatsNumber(1, GRAINS_MOST);
            if (grains == NONE || !text.eats(AT)) {
                return false;
            }
            int seat = text.eatsNumber(0, SEATS - 1);
            if (seat == NONE) {
                return false;
            }
            int set = text.eats(SET) ? text.eatsNumber(0, SET_MOST) : 0;
            if (set == NONE) {
                return false;
            }
            int step = text.eats(STEP) ? text.eatsNumber(1, 9) : 1;
            if (step == NONE) {
                return false;
            }
            table.stands(seat, trait, grains, set, step);
            return true;
        }

        private static boolean readsServed(Text text, Table table, boolean sweet) {
            int course = text.eatsNumber(0, COURSES - 1);
            if (course == NONE) {
                return false;
            }
            table.serves(course, sweet);
            return true;
        }
    }

    /** Reads a text into a law; at a false answer the text stands at its first wrong thing. */
    private static final class LawReader {
        static boolean reads(Text text, Law law) {
            law.clears();
            if (text.kind() == END) {
                return true;
            }
            for (int line = 0; line < LAW_LINES; line++) {
                if (!readsLine(text, law)) {
                    return false;
                }
                if (text.kind() == END) {
                    return true;
                }
                if (!text.eats(';')) {
                    return false;
                }
            }
            return false;
        }

        private static boolean readsLine(Text text, Law law) {
            int kind = text.kind();
            if (kind != TAKE && kind != SPARE && kind != SET || !text.eats(kind)) {
                return false;
            }
            int n = text.eatsNumber(0, LAW_MOST);
            if (n == NONE) {
                return false;
            }
            int from = law.steps;
            if (text.eats(IF) && !readsCondition(text, law, 0)) {
                return false;
            }
            law.addsLine(kind, n, from);
            return true;
        }

        private static boolean readsCondition(Text text, Law law, int depth) {
            if (!readsAll(text, law, depth)) {
                return false;
            }
            for (int i = 0; i < TAPE_ROOM && text.eats(OR); i++) {
                if (!readsAll(text, law, depth)) {
                    return false;
                }
                law.addsStep(STEPS + OR);
            }
            return true;
        }

        private static boolean readsAll(Text text, Law law, int depth) {
            if (!readsAtom(text, law, depth)) {
                return false;
            }
            for (int i = 0; i < TAPE_ROOM && text.eats(AND); i++) {
                if (!readsAtom(text, law, depth)) {
                    return false;
                }
                law.addsStep(STEPS + AND);
            }
            return true;
        }

        private static boolean readsAtom(Text text, Law law, int depth) {
            if (depth < DEPTH_MOST && text.eats(NOT)) {
                if (!readsAtom(text, law, depth + 1)) {
                    return false;
                }
                law.addsStep(STEPS + NOT);
                return true;
            }
            if (depth < DEPTH_MOST && text.eats('(')) {
                return readsCondition(text, law, depth + 1) && text.eats(')');
            }
            int kind = text.kind();
            if (kind == DIET || kind == LAST) {
                law.addsStep(STEPS + kind);
                return text.eats(kind);
            }
            if (!readsSum(text, law)) {
                return false;
            }
            int sign = text.kind();
            if (sign != '<' && sign != '>' || !text.eats(sign)) {
                return false;
            }
            law.addsStep(LEFT_DONE);
            if (!readsSum(text, law)) {
                return false;
            }
            law.addsStep(sign == '<' ? LESS : MORE);
            return true;
        }

        private static boolean readsSum(Text text, Law law) {
            for (int i = 0; i < TAPE_ROOM; i++) {
                int kind = text.kind();
                if (kind == NUMBER) {
                    law.addsStep(text.eatsNumber(0, 999));
                } else if (kind == DINER || kind == CELLAR || kind == TASTE || kind == GRAINS || kind == HAS
                        || kind == COURSE) {
                    law.addsStep(STEPS + kind);
                    text.eats(kind);
                } else {
                    return false;
                }
                if (!text.eats('+')) {
                    return true;
                }
            }
            return false;
        }
    }

    /** What a law looks at: a cellar, a diner and the course. */
    private static final class Facts {
        int diner = 0;
        int cellar = 0;
        int taste = 0;
        int grains = 0;
        int set = 0;
        int has = 0;
        int course = 0;
        boolean diet = false;
        boolean sweet = false;

        void tell(Table table, int cellarNumber, int dinerNumber) {
            if (cellarNumber < 0 || cellarNumber >= CELLARS || dinerNumber < 0 || dinerNumber >= DINERS) {
                return;
            }
            diner = dinerNumber;
            cellar = cellarNumber;
            taste = table.taste[dinerNumber];
            grains = table.grains[cellarNumber];
            set = table.set[cellarNumber];
            has = table.hasOf(dinerNumber, table.trait[cellarNumber]);
            course = table.course;
            diet = table.isOnDiet(dinerNumber);
            sweet = (table.menu >> course & 1) == 1;
        }
    }

    /** THE LAW: lines whose conditions are steps, each behind what it is about. */
    private static final class Law {
        boolean isTold = false;
        int lines = 0;
        int steps = 0;
        final int[] kind = new int[LAW_LINES];
        final int[] n = new int[LAW_LINES];
        final int[] from = new int[LAW_LINES];
        final int[] to = new int[LAW_LINES];
        final int[] code = new int[TAPE_ROOM];

        void clears() {
            isTold = true;
            lines = 0;
            steps = 0;
        }

        void copies(Law other) {
            isTold = other.isTold;
            lines = other.lines;
            steps = other.steps;
            System.arraycopy(other.kind, 0, kind, 0, LAW_LINES);
            System.arraycopy(other.n, 0, n, 0, LAW_LINES);
            System.arraycopy(other.from, 0, from, 0, LAW_LINES);
            System.arraycopy(other.to, 0, to, 0, LAW_LINES);
            System.arraycopy(other.code, 0, code, 0, TAPE_ROOM);
        }

        /** The shortest comparison, of 3 bytes and an or, makes 5 steps of 5 bytes: the room is enough. */
        void addsStep(int step) {
            if (steps < TAPE_ROOM) {
                code[steps] = step;
                steps++;
            }
        }

        void addsLine(int lineKind, int number, int firstStep) {
            if (lines < LAW_LINES) {
                kind[lines] = lineKind;
                n[lines] = number;
                from[lines] = firstStep;
                to[lines] = steps;
                lines++;
            }
        }

        int pinch(Facts facts) {
            if (facts.sweet) {
                return 0;
            }
            int wish = Math.max(0, (facts.diet ? 0 : facts.taste) - facts.set);
            for (int line = 0; line < lines && line < LAW_LINES; line++) {
                if (kind[line] == TAKE && holds(from[line], to[line], facts)) {
                    wish += n[line];
                } else if (kind[line] == SPARE && holds(from[line], to[line], facts)) {
                    wish -= n[line];
                }
            }
            return Math.max(0, Math.min(wish, facts.grains));
        }

        int setsBy(Facts facts) {
            int by = 1;
            for (int line = 0; line < lines && line < LAW_LINES; line++) {
                if (kind[line] == SET && holds(from[line], to[line], facts)) {
                    by += n[line];
                }
            }
            return by;
        }

        /** Truths wait as bits, the latest lowest: at most 2 for each of 7 depths, and one. */
        private boolean holds(int first, int end, Facts facts) {
            int truths = 1;
            int left = 0;
            int sum = 0;
            for (int i = Math.max(0, first); i < end && i < TAPE_ROOM; i++) {
                int step = code[i];
                if (step < STEPS) {
                    sum += step;
                    continue;
                }
                switch (step) {
                    case LEFT_DONE:
                        left = sum;
                        sum = 0;
                        break;
                    case LESS:
                        truths = truths << 1 | (left < sum ? 1 : 0);
                        sum = 0;
                        break;
                    case MORE:
                        truths = truths << 1 | (left > sum ? 1 : 0);
                        sum = 0;
                        break;
                    case STEPS + DIET:
                        truths = truths << 1 | (facts.diet ? 1 : 0);
                        break;
                    case STEPS + LAST:
                        truths = truths << 1 | (facts.grains <= facts.taste ? 1 : 0);
                        break;
                    case STEPS + NOT:
                        truths ^= 1;
                        break;
                    case STEPS + AND:
                        truths = (truths & 1) == 1 ? truths >> 1 : truths >> 1 & ~1;
                        break;
                    case STEPS + OR:
                        truths = truths >> 1 | truths & 1;
                        break;
                    default:
                        sum += part(step, facts);
                        break;
                }
            }
            return (truths & 1) == 1;
        }

        private static int part(int step, Facts facts) {
            switch (step) {
                case STEPS + DINER: return facts.diner;
                case STEPS + CELLAR: return facts.cellar;
                case STEPS + TASTE: return facts.taste;
                case STEPS + GRAINS: return facts.grains;
                case STEPS + HAS: return facts.has;
                case STEPS + COURSE: return facts.course;
                default: return 0;
            }
        }
    }

    /** Who sits and what stands at the table, and all that goes by there but THE LAW and THE LOG. */
    private static final class Table {
        int diners = 0;
        int cellars = 0;
        int diets = 0;
        int menu = 0;
        int course = 0;
        int dinner = 0;
        int spill = 0;
        int damp = 0;
        int spilt = 0;
        int seed = 1;
        int texts = 0;
        final int[] who = new int[SEATS];
        final int[] taste = new int[DINERS];
        final int[] has = new int[DINERS * TRAITS];
        final int[] place = new int[CELLARS];
        final int[] trait = new int[CELLARS];
        final int[] grains = new int[CELLARS];
        final int[] set = new int[CELLARS];
        final int[] step = new int[CELLARS];

        Table() {
            Arrays.fill(who, NONE);
        }

        void copies(Table other) {
            diners = other.diners;
            cellars = other.cellars;
            diets = other.diets;
            menu = other.menu;
            course = other.course;
            dinner = other.dinner;
            spill = other.spill;
            damp = other.damp;
            spilt = other.spilt;
            seed = other.seed;
            texts = other.texts;
            System.arraycopy(other.who, 0, who, 0, SEATS);
            System.arraycopy(other.taste, 0, taste, 0, DINERS);
            System.arraycopy(other.has, 0, has, 0, DINERS * TRAITS);
            System.arraycopy(other.place, 0, place, 0, CELLARS);
            System.arraycopy(other.trait, 0, trait, 0, CELLARS);
            System.arraycopy(other.grains, 0, grains, 0, CELLARS);
            System.arraycopy(other.set, 0, set, 0, CELLARS);
            System.arraycopy(other.step, 0, step, 0, CELLARS);
        }

        void sits(int seat, int dinerTaste, boolean onDiet) {
            if (diners >= DINERS || seat < 0 || seat >= SEATS) {
                return;
            }
            who[seat] = diners;
            taste[diners] = dinerTaste;
            diets = onDiet ? diets | 1 << diners : diets;
            diners++;
        }

        void stands(int seat, int cellarTrait, int cellarGrains, int cellarSet, int cellarStep) {
            if (cellars >= CELLARS) {
                return;
            }
            place[cellars] = seat;
            trait[cellars] = cellarTrait;
            grains[cellars] = cellarGrains;
            set[cellars] = cellarSet;
            step[cellars] = cellarStep;
            cellars++;
        }

        void serves(int ofCourse, boolean sweet) {
            menu = sweet ? menu | 1 << ofCourse : menu & ~(1 << ofCourse);
        }

        void changesAbout(int seat, int other) {
            if (seat < 0 || seat >= SEATS || other < 0 || other >= SEATS) {
                return;
            }
            int first = who[seat];
            who[seat] = who[other];
            who[other] = first;
        }

        int dinerAt(int seat) {
            return seat >= 0 && seat < SEATS ? who[seat] : NONE;
        }

        int seatOf(int diner) {
            for (int seat = 0; seat < SEATS; seat++) {
                if (who[seat] == diner) {
                    return seat;
                }
            }
            return NONE;
        }

        boolean isOnDiet(int diner) {
            return (diets >> diner & 1) == 1;
        }

        int hasOf(int diner, int ofTrait) {
            int at = diner * TRAITS + ofTrait;
            return at >= 0 && at < DINERS * TRAITS ? has[at] : 0;
        }

        void gains(int diner, int ofTrait, int pinch) {
            int at = diner * TRAITS + ofTrait;
            if (at >= 0 && at < DINERS * TRAITS) {
                has[at] = Math.min(HAS_MOST, has[at] + pinch);
            }
        }

        int hasInAll(int diner) {
            int together = 0;
            for (int each = 0; each < TRAITS; each++) {
                together += hasOf(diner, each);
            }
            return together;
        }

        int mixed(int diner) {
            int traits = 0;
            for (int each = 0; each < TRAITS; each++) {
                traits += hasOf(diner, each) > 0 ? 1 : 0;
            }
            return traits;
        }

        int mainTrait(int diner) {
            int main = NONE;
            int most = 0;
            for (int each = 0; each < TRAITS; each++) {
                if (hasOf(diner, each) > most) {
                    most = hasOf(diner, each);
                    main = each;
                }
            }
            return main;
        }

        int grainsInAll() {
            int together = 0;
            for (int cellar = 0; cellar < cellars && cellar < CELLARS; cellar++) {
                together += grains[cellar];
            }
            return together;
        }

        int heldCellars() {
            int held = 0;
            for (int cellar = 0; cellar < cellars && cellar < CELLARS; cellar++) {
                held |= grains[cellar] > 0 ? 1 << cellar : 0;
            }
            return held;
        }

        int heldAt(int seat) {
            int held = 0;
            for (int cellar = 0; cellar < cellars && cellar < CELLARS; cellar++) {
                held |= grains[cellar] > 0 && place[cellar] == seat ? 1 << cellar : 0;
            }
            return held;
        }

        int firstHeldAt(int seat) {
            for (int cellar = 0; cellar < cellars && cellar < CELLARS; cellar++) {
                if (grains[cellar] > 0 && place[cellar] == seat) {
                    return cellar;
                }
            }
            return NONE;
        }

        int draws() {
            seed = 1103515245 * seed + 12345;
            return seed >>> 16 & 0x7FFF;
        }

        void passesOn() {
            for (int cellar = 0; cellar < cellars && cellar < CELLARS; cellar++) {
                place[cellar] = (place[cellar] + step[cellar]) % SEATS;
            }
            course++;
            if (course >= COURSES) {
                course = 0;
                dinner = Math.min(TOTAL_MOST, dinner + 1);
            }
        }
    }

    /** Lets courses go by at a table, and counts what each diner takes in them. */
    private static final class Service {
        final Facts facts = new Facts();
        final int[] taken = new int[DINERS];
        int bribed = 0;

        void opens(int bribedDiners) {
            Arrays.fill(taken, 0);
            bribed = bribedDiners;
        }

        int goesAhead(Table table, Law law) {
            int sum = allTake(table, law, null);
            table.passesOn();
            return sum;
        }

        int goesBy(Table table, Law law, PinchLog log) {
            int sum = allTake(table, law, log);
            spills(table);
            damps(table, law);
            table.passesOn();
            return sum;
        }

        private int allTake(Table table, Law law, PinchLog log) {
            int sum = 0;
            for (int cellar = 0; cellar < table.cellars && cellar < CELLARS; cellar++) {
                int diner = table.dinerAt(table.place[cellar]);
                if (diner >= 0 && diner < DINERS && table.grains[cellar] > 0) {
                    int pinch = pinchOf(table, law, cellar, diner);
                    sum += pinch;
                    if (log != null && pinch > 0) {
                        log.adds(table, diner, cellar, pinch);
                    }
                }
            }
            return sum;
        }

        private int pinchOf(Table table, Law law, int cellar, int diner) {
            facts.tell(table, cellar, diner);
            int pinch = law.pinch(facts);
            if (pinch > 0 && (bribed >> diner & 1) == 1) {
                pinch--;
            }
            table.grains[cellar] -= pinch;
            table.gains(diner, table.trait[cellar], pinch);
            taken[diner] += pinch;
            return pinch;
        }

        private void spills(Table table) {
            for (int cellar = 0; cellar < table.cellars && cellar < CELLARS; cellar++) {
                if (table.grains[cellar] > 0 && table.draws() % 100 < table.spill) {
                    table.grains[cellar]--;
                    table.spilt = Math.min(TOTAL_MOST, table.spilt + 1);
                }
            }
        }

        private void damps(Table table, Law law) {
            if (table.draws() % 100 >= table.damp) {
                return;
            }
            for (int cellar = 0; cellar < table.cellars && cellar < CELLARS; cellar++) {
                if (table.grains[cellar] > 0) {
                    int by = 1;
                    int diner = table.dinerAt(table.place[cellar]);
                    if (diner != NONE) {
                        facts.tell(table, cellar, diner);
                        by = law.setsBy(facts);
                    }
                    table.set[cellar] = Math.min(SET_MOST, table.set[cellar] + by);
                }
            }
        }
    }

    /** THE LOG, a row in one number, so that the remembered moments stay small. */
    private static final class PinchLog {
        final int[] packed = new int[LOG_ROWS];
        int rows = 0;
        int next = 0;

        void copies(PinchLog other) {
            System.arraycopy(other.packed, 0, packed, 0, LOG_ROWS);
            rows = other.rows;
            next = other.next;
        }

        void adds(Table table, int diner, int cellar, int pinch) {
            if (next < 0 || next >= LOG_ROWS) {
                return;
            }
            packed[next] = table.dinner << 18 | table.course << 14 | diner << 11 | cellar << 8 | pinch;
            next = (next + 1) % LOG_ROWS;
            rows = Math.min(LOG_ROWS, rows + 1);
        }

        int tells(int ago, int what) {
            if (ago < 0 || ago >= rows) {
                return NONE;
            }
            int row = packed[(next - 1 - ago + 2 * LOG_ROWS) % LOG_ROWS];
            switch (what) {
                case 0: return row >>> 18;
                case 1: return row >>> 14 & 15;
                case 2: return row >>> 11 & 7;
                case 3: return row >>> 8 & 7;
                default: return row & 255;
            }
        }

        int rowsOf(int cellar) {
            int found = 0;
            for (int ago = 0; ago < rows; ago++) {
                found += tells(ago, 3) == cellar ? 1 : 0;
            }
            return found;
        }

        int latestDinnerOf(int cellar) {
            for (int ago = 0; ago < rows; ago++) {
                if (tells(ago, 3) == cellar) {
                    return tells(ago, 0);
                }
            }
            return NONE;
        }
    }

    /** All as it was once, but for THE LAW, which no act changes. */
    private static final class Moment {
        final Table table = new Table();
        final PinchLog log = new PinchLog();

        void keeps(Table liveTable, PinchLog liveLog) {
            table.copies(liveTable);
            log.copies(liveLog);
        }

        void returns(Table liveTable, PinchLog liveLog) {
            liveTable.copies(table);
            liveLog.copies(log);
        }
    }
}
