import java.lang.reflect.Method;
import java.lang.reflect.Modifier;
import java.nio.file.Files;
import java.nio.file.Path;
import java.util.Arrays;
import java.util.regex.Matcher;
import java.util.regex.Pattern;

/** What README.md tells of the class holds: its example, its texts, and that no call of the face is left out. */
public final class ReadmeTest {
    private static final Pattern CALL = Pattern.compile("(?m)^x\\.(\\w+)\\((.*?)\\); +// (.*)$");
    private static final Pattern TEXT = Pattern.compile("(?m)^(table|law): +(.*)$");

    public static void main(String[] args) throws Exception {
        String page = Files.readString(Path.of("README.md"));
        example(page);
        texts(page);
        names(page);
        Check.ends("ReadmeTest");
    }

    private static void example(String page) throws Exception {
        SaltTable x = new SaltTable();
        int calls = 0;
        for (Matcher m = CALL.matcher(page); m.find(); calls++) {
            Method call = named(m.group(1));
            Object[] numbers = numbers(m.group(2));
            Object answer = call.invoke(x, numbers);
            if (m.group(1).equals("feed")) {
                Check.same("the bytes of " + m.group(), m.group(3), "\"" + told(numbers) + "\"");
            } else {
                Check.same(m.group(), firstWord(m.group(3)), answer.toString());
            }
        }
        Check.same("calls of the example", "8", "" + calls);
        Check.due("behind the example the cellar has its grains again", 4, () -> x.cellar(0, 2));
    }

    private static String firstWord(String told) {
        return told.split("[: ]")[0];
    }

    private static Object[] numbers(String told) {
        return told.isEmpty() ? new Object[0]
                : Arrays.stream(told.split(", ")).map(n -> (Object) Integer.decode(n)).toArray();
    }

    private static String told(Object[] numbers) {
        StringBuilder text = new StringBuilder();
        for (Object number : numbers) {
            for (int shift = 24; shift >= 0; shift -= 8) {
                text.append((char) ((int) number >>> shift & 255));
            }
        }
        return text.toString();
    }

    private static void texts(String page) {
        SaltTable x = new SaltTable();
        int texts = 0;
        for (Matcher m = TEXT.matcher(page); m.find(); texts++) {
            Check.feedText(x, m.group(2));
            boolean isLaw = m.group(1).equals("law");
            Check.due(m.group(), isLaw ? 3 : 1, () -> isLaw ? x.law() : x.table());
        }
        Check.same("texts", "2", "" + texts);
        Check.due("a diner", 1, () -> x.count(0));
        Check.due("a cellar", 1, () -> x.count(1));
    }

    private static void names(String page) {
        for (Method m : SaltTable.class.getDeclaredMethods()) {
            if (Modifier.isPublic(m.getModifiers())) {
                boolean found = page.lines().anyMatch(line -> line.startsWith("|") && line.contains("`" + m.getName() + "`"));
                Check.same("the page tells of " + m.getName(), "true", "" + found);
            }
        }
    }

    private static Method named(String name) {
        return Arrays.stream(SaltTable.class.getDeclaredMethods())
                .filter(m -> m.getName().equals(name) && Modifier.isPublic(m.getModifiers())).findFirst().orElseThrow();
    }
}
