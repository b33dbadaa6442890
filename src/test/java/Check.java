import java.nio.charset.StandardCharsets;
import java.util.Arrays;
import java.util.concurrent.Callable;

/** What the tests share: a table with texts fed to it, and answers that are compared with those that are due. */
final class Check {
    private static int wrong = 0;
    private static int looked = 0;

    private Check() {
    }

    /** A call's answer, or throws. and the exception's plain name. */
    static String answer(Callable<?> call) {
        try {
            return String.valueOf(call.call());
        } catch (Exception e) {
            return "throws." + e.getClass().getSimpleName();
        }
    }

    static void due(String what, Object want, Callable<?> call) {
        same(what, String.valueOf(want), answer(call));
    }

    static void same(String what, String want, String got) {
        looked++;
        if (!want.equals(got)) {
            wrong++;
            System.out.println(what + ": answered " + got + ", due is " + want);
        }
    }

    static void noIndex(String what, Callable<?> call) {
        due(what, "throws.IndexOutOfBoundsException", call);
    }

    static void noArgument(String what, Callable<?> call) {
        due(what, "throws.IllegalArgumentException", call);
    }

    static void noElement(String what, Callable<?> call) {
        due(what, "throws.NoSuchElementException", call);
    }

    static void feedBytes(SaltTable x, byte[] bytes) {
        x.end(0);
        for (int from = 0; from < bytes.length; from += 20) {
            byte[] row = Arrays.copyOf(Arrays.copyOfRange(bytes, from, Math.min(bytes.length, from + 20)), 20);
            x.feed(number(row, 0), number(row, 4), number(row, 8), number(row, 12), number(row, 16));
        }
        x.end(bytes.length);
    }

    static int number(byte[] row, int at) {
        return (row[at] & 255) << 24 | (row[at + 1] & 255) << 16 | (row[at + 2] & 255) << 8 | row[at + 3] & 255;
    }

    static void feedText(SaltTable x, String text) {
        feedBytes(x, text.getBytes(StandardCharsets.ISO_8859_1));
    }

    /** A new table with these texts, all of which must be right. */
    static SaltTable table(String... texts) {
        SaltTable x = new SaltTable();
        for (String text : texts) {
            feedText(x, text);
            x.table();
        }
        return x;
    }

    static SaltTable law(SaltTable x, String text) {
        feedText(x, text);
        x.law();
        return x;
    }

    /** Feeds rows of bribed spoons: a cellar, courses, grains, and so on. */
    static SaltTable rows(SaltTable x, int... bytes) {
        byte[] row = new byte[bytes.length];
        for (int i = 0; i < bytes.length; i++) {
            row[i] = (byte) bytes[i];
        }
        feedBytes(x, row);
        return x;
    }

    static void ends(String test) {
        System.out.println(test + ": " + looked + " answers looked at, " + wrong + " not as due");
        System.exit(wrong == 0 ? 0 : 1);
    }
}
