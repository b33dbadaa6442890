import java.util.ArrayDeque;
import java.util.ArrayList;
import java.util.HashMap;
import java.util.List;
import java.util.Map;
import java.util.NoSuchElementException;
import java.util.TreeMap;

/** The document told once more, in the plainest way and without thought of room or speed, to compare with. */
final class PlainModel {
    static final class Diner {
        int seat;
        int taste;
        boolean diet;
        int[] has = new int[6];

        Diner copy() {
            Diner d = new Diner();
            d.seat = seat;
            d.taste = taste;
            d.diet = diet;
            d.has = has.clone();
            return d;
        }
    }

    static final class Cellar {
        int seat;
        int trait;
        int grains;
        int set;
        int step = 1;

        Cellar copy() {
            Cellar c = new Cellar();
            c.seat = seat;
            c.trait = trait;
            c.grains = grains;
            c.set = set;
            c.step = step;
            return c;
        }
    }

    interface Condition {
        boolean holds(State s, int cellar, int diner);
    }

    interface Sum {
        int of(State s, int cellar, int diner);
    }

    record Line(String kind, int n, Condition condition) {
    }

    static final class State {
        List<Diner> diners = new ArrayList<>();
        List<Cellar> cellars = new ArrayList<>();
        boolean[] sweet = new boolean[12];
        int course;
        int dinner;
        int spill;
        int damp;
        int spilt;
        int seed = 1;
        int texts;
        List<Line> law;
        List<int[]> log = new ArrayList<>();

        State copy() {
            State s = new State();
            diners.forEach(d -> s.diners.add(d.copy()));
            cellars.forEach(c -> s.cellars.add(c.copy()));
            s.sweet = sweet.clone();
            s.course = course;
            s.dinner = dinner;
            s.spill = spill;
            s.damp = damp;
            s.spilt = spilt;
            s.seed = seed;
            s.texts = texts;
            s.law = law;
            s.log = new ArrayList<>(log);
            return s;
        }

        int at(int seat) {
            for (int d = 0; d < diners.size(); d++) {
                if (diners.get(d).seat == seat) {
                    return d;
                }
            }
            return -1;
        }

        int sum(String kind, int cellar, int diner) {
            int sum = 0;
            if (law != null) {
                for (Line line : law) {
                    if (line.kind.equals(kind) && (line.condition == null || line.condition.holds(this, cellar, diner))) {
                        sum += line.n;
                    }
                }
            }
            return sum;
        }

        int pinch(int cellar, int diner) {
            Cellar c = cellars.get(cellar);
            Diner d = diners.get(diner);
            int p = d.diet ? 0 : d.taste;
            p = Math.max(0, p - c.set);
            p = p + sum("take", cellar, diner) - sum("spare", cellar, diner);
            p = Math.max(0, p);
            p = Math.min(p, c.grains);
            return sweet[course] ? 0 : p;
        }

        int draw() {
            seed = seed * 1103515245 + 12345;
            return (seed >> 16) & 32767;
        }

        /** What each diner took; bribed may be 0. */
        int[] pinches(int bribed, boolean logged) {
            int[] taken = new int[8];
            for (int i = 0; i < cellars.size(); i++) {
                Cellar c = cellars.get(i);
                int d = at(c.seat);
                if (c.grains == 0 || d < 0) {
                    continue;
                }
                int p = pinch(i, d);
                if ((bribed & 1 << d) != 0) {
                    p = Math.max(0, p - 1);
                }
                c.grains -= p;
                diners.get(d).has[c.trait] = Math.min(999, diners.get(d).has[c.trait] + p);
                taken[d] += p;
                if (logged && p > 0) {
                    log.add(0, new int[] {dinner, course, d, i, p});
                    if (log.size() > 60) {
                        log.remove(60);
                    }
                }
            }
            return taken;
        }

        void passOn() {
            for (Cellar c : cellars) {
                c.seat = (c.seat + c.step) % 10;
            }
            if (course == 11) {
                course = 0;
                dinner = Math.min(9999, dinner + 1);
            } else {
                course++;
            }
        }

        int[] ahead(int bribed) {
            int[] taken = pinches(bribed, false);
            passOn();
            return taken;
        }

        int drawn() {
            int[] taken = pinches(0, true);
            for (Cellar c : cellars) {
                if (c.grains > 0) {
                    int draw = draw();
                    if (draw % 100 < spill) {
                        c.grains--;
                        spilt = Math.min(9999, spilt + 1);
                    }
                }
            }
            if (draw() % 100 < damp) {
                for (int i = 0; i < cellars.size(); i++) {
                    Cellar c = cellars.get(i);
                    if (c.grains > 0) {
                        int d = at(c.seat);
                        c.set = Math.min(9, c.set + 1 + (d < 0 ? 0 : sum("set", i, d)));
                    }
                }
            }
            passOn();
            int sum = 0;
            for (int t : taken) {
                sum += t;
            }
            return sum;
        }

        int held() {
            int held = 0;
            for (int i = 0; i < cellars.size(); i++) {
                if (cellars.get(i).grains > 0) {
                    held |= 1 << i;
                }
            }
            return held;
        }

        int allFree() {
            State s = copy();
            for (int n = 0; n <= 200; n++) {
                if (s.held() == 0) {
                    return n;
                }
                s.ahead(0);
            }
            return -1;
        }

        State by(int n) {
            State s = copy();
            for (int i = 0; i < n; i++) {
                s.ahead(0);
            }
            return s;
        }

        void change(int a, int b) {
            int first = at(a);
            int second = at(b);
            if (first >= 0) {
                diners.get(first).seat = b;
            }
            if (second >= 0) {
                diners.get(second).seat = a;
            }
        }
    }

    private static final class Wrong extends Exception {
        private static final long serialVersionUID = 1L;
        final int at;

        Wrong(int at) {
            this.at = at;
        }
    }

    /** Reads characters from left to right, and stops at the first that is wrong. */
    private static final class Reader {
        final String text;
        int at;

        Reader(String text) {
            this.text = text;
        }

        void blanks() {
            while (at < text.length() && text.charAt(at) == ' ') {
                at++;
            }
        }

        boolean ended() {
            blanks();
            return at == text.length();
        }

        String peekWord() {
            blanks();
            int to = at;
            while (to < text.length() && text.charAt(to) >= 'a' && text.charAt(to) <= 'z') {
                to++;
            }
            return text.substring(at, to);
        }

        boolean word(String word) {
            if (!peekWord().equals(word)) {
                return false;
            }
            at += word.length();
            return true;
        }

        void must(String word) throws Wrong {
            if (!word(word)) {
                throw new Wrong(at);
            }
        }

        boolean sign(char c) {
            blanks();
            if (at < text.length() && text.charAt(at) == c) {
                at++;
                return true;
            }
            return false;
        }

        boolean digitNext() {
            blanks();
            return at < text.length() && text.charAt(at) >= '0' && text.charAt(at) <= '9';
        }

        int number(int least, int most) throws Wrong {
            blanks();
            int to = at;
            while (to < text.length() && text.charAt(to) >= '0' && text.charAt(to) <= '9') {
                to++;
            }
            if (to == at || to - at > 3) {
                throw new Wrong(at);
            }
            int n = Integer.parseInt(text.substring(at, to));
            if (n < least || n > most) {
                throw new Wrong(at);
            }
            at = to;
            return n;
        }
    }

    private static void readTable(String text, State s) throws Wrong {
        Reader r = new Reader(text);
        if (r.ended()) {
            return;
        }
        int lines = 0;
        do {
            String word = r.peekWord();
            int begin = r.at;
            if (++lines > 14 || word.equals("diner") && s.diners.size() == 8
                    || word.equals("cellar") && s.cellars.size() == 5) {
                throw new Wrong(begin);
            }
            r.at += word.length();
            switch (word) {
                case "diner" -> readDiner(r, s);
                case "cellar" -> readCellar(r, s);
                case "sweet" -> s.sweet[r.number(0, 11)] = true;
                case "salty" -> s.sweet[r.number(0, 11)] = false;
                case "spill" -> s.spill = r.number(0, 100);
                case "damp" -> s.damp = r.number(0, 100);
                case "course" -> s.course = r.number(0, 11);
                default -> throw new Wrong(begin);
            }
            if (r.ended()) {
                return;
            }
        } while (r.sign(';'));
        throw new Wrong(r.at);
    }

    private static void readDiner(Reader r, State s) throws Wrong {
        Diner d = new Diner();
        r.must("taste");
        d.taste = r.number(0, 9);
        r.must("at");
        r.blanks();
        int begin = r.at;
        d.seat = r.number(0, 9);
        if (s.at(d.seat) >= 0) {
            throw new Wrong(begin);
        }
        d.diet = r.word("diet");
        s.diners.add(d);
    }

    private static void readCellar(Reader r, State s) throws Wrong {
        Cellar c = new Cellar();
        String trait = r.peekWord();
        if (trait.length() != 1 || trait.charAt(0) > 'f') {
            throw new Wrong(r.at);
        }
        r.at++;
        c.trait = trait.charAt(0) - 'a';
        r.must("grains");
        c.grains = r.number(1, 200);
        r.must("at");
        c.seat = r.number(0, 9);
        if (r.word("set")) {
            c.set = r.number(0, 9);
        }
        if (r.word("step")) {
            c.step = r.number(1, 9);
        }
        s.cellars.add(c);
    }

    private static List<Line> readLaw(String text) throws Wrong {
        Reader r = new Reader(text);
        List<Line> law = new ArrayList<>();
        if (r.ended()) {
            return law;
        }
        do {
            String word = r.peekWord();
            if (law.size() == 12 || !List.of("take", "spare", "set").contains(word)) {
                throw new Wrong(r.at);
            }
            r.at += word.length();
            int n = r.number(0, 30);
            law.add(new Line(word, n, r.word("if") ? any(r, 0) : null));
            if (r.ended()) {
                return law;
            }
        } while (r.sign(';'));
        throw new Wrong(r.at);
    }

    private static Condition any(Reader r, int depth) throws Wrong {
        Condition left = both(r, depth);
        while (r.word("or")) {
            Condition a = left;
            Condition b = both(r, depth);
            left = (s, c, d) -> a.holds(s, c, d) || b.holds(s, c, d);
        }
        return left;
    }

    private static Condition both(Reader r, int depth) throws Wrong {
        Condition left = atom(r, depth);
        while (r.word("and")) {
            Condition a = left;
            Condition b = atom(r, depth);
            left = (s, c, d) -> a.holds(s, c, d) && b.holds(s, c, d);
        }
        return left;
    }

    private static Condition atom(Reader r, int depth) throws Wrong {
        r.blanks();
        int begin = r.at;
        if (r.word("not")) {
            if (depth == 6) {
                throw new Wrong(begin);
            }
            Condition a = atom(r, depth + 1);
            return (s, c, d) -> !a.holds(s, c, d);
        }
        if (r.sign('(')) {
            if (depth == 6) {
                throw new Wrong(begin);
            }
            Condition a = any(r, depth + 1);
            if (!r.sign(')')) {
                throw new Wrong(r.at);
            }
            return a;
        }
        if (r.word("diet")) {
            return (s, c, d) -> s.diners.get(d).diet;
        }
        if (r.word("last")) {
            return (s, c, d) -> s.cellars.get(c).grains <= s.diners.get(d).taste;
        }
        Sum left = sum(r);
        boolean less = r.sign('<');
        if (!less && !r.sign('>')) {
            throw new Wrong(r.at);
        }
        Sum right = sum(r);
        return less ? (s, c, d) -> left.of(s, c, d) < right.of(s, c, d) : (s, c, d) -> left.of(s, c, d) > right.of(s, c, d);
    }

    private static Sum sum(Reader r) throws Wrong {
        Sum left = part(r);
        while (r.sign('+')) {
            Sum a = left;
            Sum b = part(r);
            left = (s, c, d) -> a.of(s, c, d) + b.of(s, c, d);
        }
        return left;
    }

    private static Sum part(Reader r) throws Wrong {
        if (r.digitNext()) {
            int n = r.number(0, 999);
            return (s, c, d) -> n;
        }
        String word = r.peekWord();
        Sum part = switch (word) {
            case "diner" -> (s, c, d) -> d;
            case "cellar" -> (s, c, d) -> c;
            case "taste" -> (s, c, d) -> s.diners.get(d).taste;
            case "grains" -> (s, c, d) -> s.cellars.get(c).grains;
            case "has" -> (s, c, d) -> s.diners.get(d).has[s.cellars.get(c).trait];
            case "course" -> (s, c, d) -> s.course;
            default -> throw new Wrong(r.at);
        };
        r.at += word.length();
        return part;
    }

    private final StringBuilder tape = new StringBuilder();
    private State s = new State();
    private final ArrayDeque<State> acts = new ArrayDeque<>();
    private State image;
    private int fault = -1;

    public int feed(int a, int b, int c, int d, int e) {
        if (tape.length() > 380) {
            return -1;
        }
        for (int n : new int[] {a, b, c, d, e}) {
            tape.append((char) (n >>> 24)).append((char) (n >> 16 & 255)).append((char) (n >> 8 & 255)).append((char) (n & 255));
        }
        return tape.length();
    }

    public boolean end(int n) {
        if (n < 0 || n > tape.length()) {
            return false;
        }
        tape.setLength(n);
        return true;
    }

    private String usedUp() {
        String text = tape.toString();
        tape.setLength(0);
        return text;
    }

    public int table() {
        State next = s.copy();
        try {
            readTable(usedUp(), next);
            fault = -1;
        } catch (Wrong w) {
            fault = w.at;
            throw new IllegalArgumentException();
        }
        if (s.texts == 12) {
            throw new UnsupportedOperationException();
        }
        s = next;
        s.texts++;
        acts.clear();
        return s.texts;
    }

    public int law() {
        try {
            s.law = readLaw(usedUp());
            fault = -1;
        } catch (Wrong w) {
            fault = w.at;
            throw new IllegalArgumentException();
        }
        acts.clear();
        return s.law.size();
    }

    public int fault() {
        return fault;
    }

    private Diner dinerOf(int diner) {
        index(diner, s.diners.size());
        return s.diners.get(diner);
    }

    private Cellar cellarOf(int cellar) {
        index(cellar, s.cellars.size());
        return s.cellars.get(cellar);
    }

    private static void index(int i, int size) {
        if (i < 0 || i >= size) {
            throw new IndexOutOfBoundsException();
        }
    }

    private static void within(int n, int least, int most) {
        if (n < least || n > most) {
            throw new IllegalArgumentException();
        }
    }

    public int diner(int diner, int what) {
        Diner d = dinerOf(diner);
        int mixed = 0;
        int together = 0;
        for (int has : d.has) {
            mixed += has > 0 ? 1 : 0;
            together += has;
        }
        return element(what, d.seat, d.taste, d.diet ? 1 : 0, mixed, together);
    }

    private static int element(int what, int... answers) {
        if (what < 0 || what >= answers.length) {
            throw new NoSuchElementException();
        }
        return answers[what];
    }

    public int has(int diner, int trait) {
        Diner d = dinerOf(diner);
        index(trait, 6);
        return d.has[trait];
    }

    public int cellar(int cellar, int what) {
        Cellar c = cellarOf(cellar);
        int d = s.at(c.seat);
        int pinch = d < 0 || c.grains == 0 ? 0 : s.pinch(cellar, d);
        int sets = d < 0 ? 0 : 1 + s.sum("set", cellar, d);
        return element(what, c.seat, c.trait, c.grains, c.set, c.step, d, pinch, sets);
    }

    public int seat(int seat) {
        index(seat, 10);
        return s.at(seat);
    }

    private void act() {
        acts.push(s.copy());
        if (acts.size() > 12) {
            acts.removeLast();
        }
    }

    public int pass(int cellar, int seat) {
        cellarOf(cellar);
        index(seat, 10);
        act();
        int was = cellarOf(cellar).seat;
        cellarOf(cellar).seat = seat;
        return was;
    }

    public int knock(int cellar) {
        cellarOf(cellar);
        act();
        int was = cellarOf(cellar).set;
        cellarOf(cellar).set = 0;
        return was;
    }

    public int fill(int cellar, int n) {
        Cellar c = cellarOf(cellar);
        within(n, 1, 200);
        act();
        c.grains = Math.min(200, c.grains + n);
        return c.grains;
    }

    public int change(int seat, int other) {
        index(seat, 10);
        index(other, 10);
        if (seat == other) {
            throw new IllegalArgumentException();
        }
        act();
        s.change(seat, other);
        return s.at(seat);
    }

    public boolean diet(int diner, boolean is) {
        Diner d = dinerOf(diner);
        act();
        boolean was = d.diet;
        d.diet = is;
        return was != is;
    }

    public boolean sweet(int course, boolean is) {
        index(course, 12);
        act();
        boolean was = s.sweet[course];
        s.sweet[course] = is;
        return was != is;
    }

    public int courses(int n) {
        within(n, 1, 100);
        act();
        int taken = 0;
        for (int i = 0; i < n; i++) {
            taken += s.drawn();
        }
        return taken;
    }

    public int frees(int cellar) {
        cellarOf(cellar);
        for (int n = 0; n <= 200; n++) {
            if (s.by(n).cellars.get(cellar).grains == 0) {
                return n;
            }
        }
        return -1;
    }

    public int all() {
        return s.allFree();
    }

    public int held() {
        return s.held();
    }

    private int[] takenBy(int n) {
        State t = s.copy();
        int[] sum = new int[8];
        for (int i = 0; i < n; i++) {
            int[] taken = t.ahead(0);
            for (int d = 0; d < 8; d++) {
                sum[d] += taken[d];
            }
        }
        return sum;
    }

    public int takes(int diner, int n) {
        dinerOf(diner);
        within(n, 0, 200);
        return takenBy(n)[diner];
    }

    public int keenest(int n) {
        within(n, 0, 200);
        int[] taken = takenBy(n);
        int best = -1;
        for (int d = 0; d < s.diners.size(); d++) {
            if (best < 0 || taken[d] > taken[best]) {
                best = d;
            }
        }
        return best;
    }

    public int goes(int cellar, int n) {
        cellarOf(cellar);
        within(n, 0, 200);
        return s.by(n).cellars.get(cellar).seat;
    }

    public int ahead(int cellar, int n) {
        cellarOf(cellar);
        within(n, 0, 200);
        return s.by(n).cellars.get(cellar).grains;
    }

    public int swap() {
        TreeMap<Integer, Integer> byTime = new TreeMap<>();
        for (int pair = 0; pair < 100; pair++) {
            if (pair / 10 < pair % 10) {
                State t = s.copy();
                t.change(pair / 10, pair % 10);
                byTime.putIfAbsent(t.allFree() < 0 ? 999 : t.allFree(), pair);
            }
        }
        int now = s.allFree() < 0 ? 999 : s.allFree();
        return byTime.firstKey() < now ? byTime.get(byTime.firstKey()) : -1;
    }

    public int fewest(int cellar, int n) {
        cellarOf(cellar);
        within(n, 0, 24);
        int best = -1;
        for (int set = 0; set < 1 << s.diners.size(); set++) {
            State t = s.copy();
            for (int d = 0; d < t.diners.size(); d++) {
                t.diners.get(d).diet = (set & 1 << d) == 0;
            }
            if (t.by(n).cellars.get(cellar).grains == 0
                    && (best < 0 || Integer.bitCount(set) < Integer.bitCount(best))) {
                best = set;
            }
        }
        return best;
    }

    private State bribedBy(int set, int n) {
        State t = s.copy();
        for (int i = 0; i < n; i++) {
            t.ahead(set);
        }
        return t;
    }

    private List<Integer> sets() {
        String rows = usedUp();
        if (rows.length() % 3 != 0 || rows.length() > 12) {
            throw new IllegalArgumentException();
        }
        for (int i = 0; i < rows.length(); i += 3) {
            if (rows.charAt(i) >= s.cellars.size() || rows.charAt(i + 1) > 24) {
                throw new IllegalArgumentException();
            }
        }
        List<Integer> sets = new ArrayList<>();
        for (int set = 0; set < 1 << s.diners.size(); set++) {
            boolean fits = Integer.bitCount(set) <= 2;
            for (int i = 0; fits && i < rows.length(); i += 3) {
                fits = bribedBy(set, rows.charAt(i + 1)).cellars.get(rows.charAt(i)).grains == rows.charAt(i + 2);
            }
            if (fits) {
                sets.add(set);
            }
        }
        return sets;
    }

    public int bribes(boolean sure) {
        List<Integer> sets = sets();
        if (!sure) {
            return sets.size();
        }
        int inAll = sets.isEmpty() ? 0 : 255;
        for (int set : sets) {
            inAll &= set;
        }
        return inAll;
    }

    public int ask(int n) {
        List<Integer> sets = sets();
        within(n, 1, 24);
        if (sets.size() < 2) {
            return -1;
        }
        int best = -1;
        int least = 0;
        for (int c = 0; c < s.cellars.size(); c++) {
            Map<Integer, Integer> parts = new HashMap<>();
            for (int set : sets) {
                parts.merge(bribedBy(set, n).cellars.get(c).grains, 1, Integer::sum);
            }
            int greatest = parts.values().stream().max(Integer::compare).get();
            if (best < 0 || greatest < least) {
                best = c;
                least = greatest;
            }
        }
        return best;
    }

    public int worst(int trait) {
        index(trait, 6);
        int worst = -1;
        for (int d = 0; d < s.diners.size(); d++) {
            int has = s.diners.get(d).has[trait];
            if (has > 0 && (worst < 0 || has > s.diners.get(worst).has[trait])) {
                worst = d;
            }
        }
        return worst;
    }

    private int mainOf(int diner) {
        int[] has = s.diners.get(diner).has;
        int main = 0;
        for (int t = 1; t < 6; t++) {
            main = has[t] > has[main] ? t : main;
        }
        return has[main] == 0 ? -1 - diner : main;
    }

    public int alike() {
        int pairs = 0;
        for (int a = 0; a < s.diners.size(); a++) {
            for (int b = 0; b < a; b++) {
                pairs += mainOf(a) == mainOf(b) ? 1 : 0;
            }
        }
        return pairs;
    }

    public int share(int diner, int trait) {
        dinerOf(diner);
        index(trait, 6);
        int sum = s.diners.stream().mapToInt(d -> d.has[trait]).sum();
        return sum == 0 ? 0 : s.diners.get(diner).has[trait] * 100 / sum;
    }

    public int whole() {
        int whole = s.spilt;
        for (Cellar c : s.cellars) {
            whole += c.grains;
        }
        for (int d = 0; d < s.diners.size(); d++) {
            whole += diner(d, 4);
        }
        return whole;
    }

    public int sentence(int cellar) {
        int grains = cellarOf(cellar).grains;
        int turns = 0;
        while (grains > 0) {
            if (turns > 5000 || s.diners.isEmpty()) {
                return -1;
            }
            grains -= s.diners.get(turns % s.diners.size()).taste;
            turns++;
        }
        return turns;
    }

    public int alone(int cellar, int diner) {
        cellarOf(cellar);
        dinerOf(diner);
        State t = s.copy();
        Cellar c = t.cellars.get(cellar);
        for (int n = 0; n <= 200; n++) {
            if (c.grains == 0) {
                return n;
            }
            int p = t.pinch(cellar, diner);
            c.grains -= p;
            int[] has = t.diners.get(diner).has;
            has[c.trait] = Math.min(999, has[c.trait] + p);
        }
        return -1;
    }

    public boolean fair() {
        List<Integer> sentences = new ArrayList<>();
        for (int c = 0; c < s.cellars.size(); c++) {
            if (s.cellars.get(c).grains > 0) {
                sentences.add(sentence(c));
            }
        }
        return sentences.stream().distinct().count() <= 1;
    }

    public int game(int diner) {
        Diner d = dinerOf(diner);
        for (int c = 0; c < s.cellars.size(); c++) {
            if (s.cellars.get(c).grains > 0 && s.cellars.get(c).seat == d.seat) {
                return game(diner, c);
            }
        }
        return -1;
    }

    private int game(int diner, int cellar) {
        int[][] cook = new int[2][2];
        int[][] eats = new int[2][2];
        for (int k = 0; k < 2; k++) {
            for (int j = 0; j < 2; j++) {
                State t = s.copy();
                t.sweet[t.course] = k == 0;
                t.diners.get(diner).diet = j == 0;
                cook[k][j] = t.pinch(cellar, diner);
                eats[k][j] = j == 0 ? 2 : cook[k][j] > 0 ? t.diners.get(diner).taste : 0;
            }
        }
        int bits = 0;
        for (int k = 0; k < 2; k++) {
            for (int j = 0; j < 2; j++) {
                if (!(cook[1 - k][j] > cook[k][j]) && !(eats[k][1 - j] > eats[k][j])) {
                    bits |= 1 << 2 * k + j;
                }
            }
        }
        return bits;
    }

    public int crowd() {
        int[] crowd = new int[10];
        s.cellars.forEach(c -> crowd[c.seat] += c.grains > 0 ? 1 : 0);
        int best = 0;
        for (int seat = 1; seat < 10; seat++) {
            best = crowd[seat] > crowd[best] ? seat : best;
        }
        return crowd[best] == 0 ? -1 : best;
    }

    public int gaps() {
        int gaps = 1023;
        for (Diner d : s.diners) {
            gaps &= ~(1 << d.seat);
        }
        return gaps;
    }

    public int meets(int diner) {
        Diner d = dinerOf(diner);
        int meets = 0;
        for (int n = 0; n <= 11; n++) {
            State t = s.by(n);
            for (int c = 0; c < t.cellars.size(); c++) {
                if (t.cellars.get(c).grains > 0 && t.cellars.get(c).seat == d.seat) {
                    meets |= 1 << c;
                }
            }
        }
        return meets;
    }

    public int least(int n) {
        within(n, 0, 60);
        int best = 0;
        int fewest = Integer.MAX_VALUE;
        for (int k = 0; k <= n; k++) {
            int taken = 0;
            for (int t : s.by(k).ahead(0)) {
                taken += t;
            }
            if (taken < fewest) {
                fewest = taken;
                best = k;
            }
        }
        return best;
    }

    private State tried(int n, int seed) {
        State t = s.copy();
        t.seed = seed;
        for (int i = 0; i < n; i++) {
            t.drawn();
        }
        return t;
    }

    public int trial(int n, boolean held) {
        within(n, 0, 200);
        State t = tried(n, s.seed);
        return held ? t.held() : t.spilt;
    }

    public int span(int n, boolean most) {
        within(n, 0, 200);
        TreeMap<Integer, Integer> spilt = new TreeMap<>();
        for (int seed = 1; seed < 7; seed++) {
            spilt.put(tried(n, seed).spilt, seed);
        }
        return most ? spilt.lastKey() : spilt.firstKey();
    }

    public int led(int cellar, boolean dinner) {
        cellarOf(cellar);
        List<int[]> rows = s.log.stream().filter(row -> row[3] == cellar).toList();
        return !dinner ? rows.size() : rows.isEmpty() ? -1 : rows.get(0)[0];
    }

    public int log(int ago, int what) {
        element(what, 0, 0, 0, 0, 0);
        return ago < 0 || ago >= s.log.size() ? -1 : s.log.get(ago)[what];
    }

    public int seed(int n) {
        int was = s.seed;
        s.seed = n;
        return was;
    }

    public boolean undo() {
        if (acts.isEmpty()) {
            return false;
        }
        s = acts.pop();
        return true;
    }

    public void image() {
        image = s.copy();
    }

    public boolean back() {
        if (image == null) {
            return false;
        }
        s = image.copy();
        acts.clear();
        return true;
    }

    public int count(int what) {
        int menu = 0;
        for (int i = 0; i < 12; i++) {
            menu |= s.sweet[i] ? 1 << i : 0;
        }
        int diets = 0;
        for (int d = 0; d < s.diners.size(); d++) {
            diets |= s.diners.get(d).diet ? 1 << d : 0;
        }
        int grains = s.cellars.stream().mapToInt(c -> c.grains).sum();
        int[] answers = {s.diners.size(), s.cellars.size(), s.texts, s.law == null ? -1 : s.law.size(), s.course, s.dinner,
            menu, s.spill, s.damp, s.spilt, grains, diets, s.log.size(), acts.size()};
        return what < 0 || what >= answers.length ? -1 : answers[what];
    }
}
