import java.util.Random;

/** Makes texts of the table and of the law, some of them spoilt. */
final class TextMaker {
    private static final String[] WORDS = {"diner", "taste", "at", "diet", "cellar", "grains", "set", "step", "sweet",
        "salty", "spill", "damp", "course", "take", "spare", "if", "or", "and", "not", "last", "has", "x", "a", "f", "g",
        "(", ")", "<", ">", "+", ";", "0", "1", "30", "31", "999", "1000", "0001", "-", "\u00e9", "A", "\0"};

    private TextMaker() {
    }

    static String table(Random random, int spoilt) {
        StringBuilder text = new StringBuilder();
        int lines = random.nextInt(30) == 0 ? 12 + random.nextInt(4) : random.nextInt(5);
        for (int i = 0; i < lines; i++) {
            text.append(i > 0 ? ";" : "").append(blanks(random)).append(tableLine(random));
        }
        return spoil(cut(text), random, spoilt);
    }

    /** A right text of many diners and cellars. */
    static String fullTable(Random random) {
        StringBuilder text = new StringBuilder("spill ").append(random.nextInt(60));
        int shift = random.nextInt(10);
        for (int i = 0; i < 3 + random.nextInt(6); i++) {
            text.append(";diner taste ").append(random.nextInt(10)).append(" at ").append((shift + 3 * i) % 10);
            text.append(random.nextInt(6) == 0 ? " diet" : "");
        }
        for (int i = 0; i < 2 + random.nextInt(4); i++) {
            text.append(";cellar ").append((char) ('a' + random.nextInt(3))).append(" grains ");
            text.append(1 + random.nextInt(random.nextBoolean() ? 40 : 200)).append(" at ").append(random.nextInt(10));
            text.append(random.nextInt(2) == 0 ? " step " + (1 + random.nextInt(9)) : "");
        }
        return text.toString();
    }

    private static String tableLine(Random random) {
        String gap = random.nextInt(3) == 0 ? " " : "";
        switch (random.nextInt(8)) {
            case 0:
            case 1:
            case 2:
                return "diner taste" + gap + random.nextInt(10) + gap + "at " + random.nextInt(10)
                        + (random.nextInt(4) == 0 ? gap + "diet" : "");
            case 3:
            case 4:
                return "cellar " + (char) ('a' + random.nextInt(6)) + " grains " + (1 + random.nextInt(random.nextBoolean() ? 20 : 200))
                        + gap + "at" + gap + random.nextInt(10) + (random.nextInt(4) == 0 ? gap + "set " + random.nextInt(4) : "")
                        + (random.nextInt(2) == 0 ? gap + "step " + (1 + random.nextInt(9)) : "");
            case 5:
                return (random.nextInt(3) == 0 ? "salty " : "sweet ") + random.nextInt(12);
            case 6:
                return (random.nextBoolean() ? "spill " : "damp ") + random.nextInt(101);
            default:
                return "course" + gap + random.nextInt(12);
        }
    }

    static String law(Random random, int spoilt) {
        StringBuilder text = new StringBuilder();
        int lines = random.nextInt(30) == 0 ? 10 + random.nextInt(4) : random.nextInt(5);
        String[] kinds = {"take ", "spare ", "set "};
        for (int i = 0; i < lines; i++) {
            text.append(i > 0 ? ";" : "").append(blanks(random)).append(kinds[random.nextInt(3)]);
            text.append(random.nextInt(random.nextInt(4) == 0 ? 31 : 5));
            if (random.nextInt(4) != 0) {
                text.append(blanks(random)).append("if ").append(condition(random, random.nextInt(4)));
            }
        }
        return spoil(cut(text), random, spoilt);
    }

    private static String condition(Random random, int deep) {
        switch (deep <= 0 ? random.nextInt(3) : random.nextInt(7)) {
            case 0:
                return random.nextBoolean() ? "diet" : "last";
            case 1:
            case 2:
                return sum(random) + blanks(random) + (random.nextBoolean() ? "<" : ">") + blanks(random) + sum(random);
            case 3:
                return "not " + condition(random, deep - 1);
            case 4:
                return "(" + blanks(random) + condition(random, deep - 1) + ")";
            case 5:
                return condition(random, deep - 1) + " and " + condition(random, deep - 1);
            default:
                return condition(random, deep - 1) + " or " + condition(random, deep - 1);
        }
    }

    private static String sum(Random random) {
        String[] parts = {"diner", "cellar", "taste", "grains", "has", "course"};
        String part = random.nextInt(3) == 0 ? "" + random.nextInt(random.nextBoolean() ? 12 : 200) : parts[random.nextInt(6)];
        return random.nextInt(4) == 0 ? part + blanks(random) + "+" + blanks(random) + sum(random) : part;
    }

    private static String blanks(Random random) {
        return random.nextInt(4) == 0 ? "  ".substring(random.nextInt(2)) : "";
    }

    private static String cut(StringBuilder text) {
        return text.substring(0, Math.min(400, text.length()));
    }

    /** Spoils so many in ten texts, by a word put in, a piece cut out, or an early end. */
    private static String spoil(String text, Random random, int spoilt) {
        if (random.nextInt(10) >= spoilt) {
            return text;
        }
        int at = random.nextInt(text.length() + 1);
        int to = Math.min(text.length(), at + random.nextInt(4));
        String word = WORDS[random.nextInt(WORDS.length)];
        String made;
        switch (random.nextInt(4)) {
            case 0:
                made = text.substring(0, at);
                break;
            case 1:
                made = text.substring(0, at) + text.substring(to);
                break;
            case 2:
                made = text.substring(0, at) + word + text.substring(at);
                break;
            default:
                made = text.substring(0, at) + " " + word + " " + text.substring(to);
                break;
        }
        return made.substring(0, Math.min(400, made.length()));
    }
}
