import java.util.concurrent.Callable;

/**
 * All that can be seen of a table, as a text, so that two moments of it can be compared. To look takes many calls,
 * so a test that does may go beyond the 512 calls of the document: the class does not count them.
 */
final class Seen {
    private Seen() {
    }

    /** All but the tape and fault(), which neither undo nor back bring back. */
    static String of(SaltTable x) {
        StringBuilder seen = new StringBuilder();
        for (int what = 0; what < 13; what++) {
            seen.append(" count").append(what).append('=').append(x.count(what));
        }
        for (int d = 0; d < x.count(0); d++) {
            for (int what = 0; what < 5; what++) {
                seen.append(" diner").append(d).append('.').append(what).append('=').append(x.diner(d, what));
            }
            for (int trait = 0; trait < 6; trait++) {
                seen.append(" has").append(d).append('.').append(trait).append('=').append(x.has(d, trait));
            }
        }
        for (int c = 0; c < x.count(1); c++) {
            for (int what = 0; what < 8; what++) {
                seen.append(" cellar").append(c).append('.').append(what).append('=').append(x.cellar(c, what));
            }
        }
        for (int seat = 0; seat < 10; seat++) {
            seen.append(" seat").append(seat).append('=').append(x.seat(seat));
        }
        for (int ago = 0; ago < x.count(12); ago++) {
            for (int what = 0; what < 5; what++) {
                seen.append(what == 0 ? " log" : ",").append(x.log(ago, what));
            }
        }
        return seen.append(" seed=").append(seed(x)).toString();
    }

    private static String withActs(SaltTable x) {
        return of(x) + " acts=" + x.count(13);
    }

    static int seed(SaltTable x) {
        int seed = x.seed(0);
        x.seed(seed);
        return seed;
    }

    /** How many bytes the tape has: the greatest end that is one. */
    static int tape(SaltTable x) {
        for (int n = 401; n > 0; n--) {
            if (x.end(n)) {
                return n;
            }
        }
        return 0;
    }

    /** The call's answer is due, and behind it all is as it was ahead of it, acts, tape and fault() too. */
    static void unmoved(String what, Object want, SaltTable x, Callable<?> call) {
        String before = withActs(x) + " tape=" + tape(x) + " fault=" + x.fault();
        Check.due(what, want, call);
        Check.same(what + ": all is as it was", before, withActs(x) + " tape=" + tape(x) + " fault=" + x.fault());
    }

    /** The same of a call that uses the tape up. */
    static void unmovedButTape(String what, Object want, SaltTable x, Callable<?> call) {
        String before = withActs(x);
        Check.due(what, want, call);
        Check.same(what + ": all but the tape is as it was", before, withActs(x));
        Check.same(what + ": the tape is used up", "0", "" + tape(x));
    }
}
