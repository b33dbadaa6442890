import java.lang.management.ManagementFactory;
import java.lang.reflect.Field;
import java.lang.reflect.Method;
import java.lang.reflect.Modifier;
import java.nio.file.Files;
import java.nio.file.Path;
import java.util.ArrayList;
import java.util.Arrays;
import java.util.List;
import java.util.Set;
import java.util.TreeSet;
import java.util.regex.Pattern;

/** Rules of LANGUAGE.md that a program can look after: the face, the words used, lengths, and the room calls take. */
public final class RulesTest {
    private static final Path SOURCE = Path.of("src/main/java/SaltTable.java");
    private static final String FACE = "feed(IIIII)int end(I)boolean table()int law()int fault()int diner(II)int has(II)int "
            + "cellar(II)int seat(I)int pass(II)int knock(I)int fill(II)int change(II)int diet(IZ)boolean sweet(IZ)boolean "
            + "courses(I)int frees(I)int all()int held()int takes(II)int keenest(I)int goes(II)int ahead(II)int swap()int "
            + "fewest(II)int bribes(Z)int ask(I)int worst(I)int alike()int share(II)int whole()int sentence(I)int alone(II)int "
            + "fair()boolean game(I)int crowd()int gaps()int meets(I)int least(I)int trial(IZ)int span(IZ)int led(IZ)int "
            + "log(II)int seed(I)int undo()boolean image()void back()boolean count(I)int";

    public static void main(String[] args) throws Exception {
        face();
        classes();
        words();
        lengths();
        room();
        Check.ends("RulesTest");
    }

    private static void face() throws Exception {
        Set<String> found = new TreeSet<>();
        Set<String> names = new TreeSet<>();
        for (Method m : SaltTable.class.getDeclaredMethods()) {
            if (Modifier.isPublic(m.getModifiers())) {
                StringBuilder told = new StringBuilder(m.getName()).append('(');
                Arrays.stream(m.getParameterTypes()).forEach(t -> told.append(t == int.class ? 'I' : 'Z'));
                found.add(told.append(')').append(m.getReturnType()).toString());
                names.add(m.getName());
            }
        }
        Check.same("the face", new TreeSet<>(List.of(FACE.split(" "))).toString(), found.toString());
        Check.same("constructors", "1", "" + SaltTable.class.getConstructors().length);
        Check.same("the constant", "-1", "" + SaltTable.NONE);
        Check.same("final", "true", "" + Modifier.isFinal(SaltTable.class.getModifiers()));
        for (Class<?> c : all()) {
            for (Method m : c.getDeclaredMethods()) {
                boolean isFace = c == SaltTable.class && Modifier.isPublic(m.getModifiers());
                boolean hidden = c != SaltTable.class || Modifier.isPrivate(m.getModifiers());
                Check.same(c + " " + m.getName() + " is of the face, or hidden with a name of its own", "true",
                        "" + (isFace || hidden && !names.contains(m.getName())));
                Check.same(m.getName() + " takes at most seven", "true", "" + (m.getParameterCount() <= 7));
            }
        }
    }

    private static List<Class<?>> all() {
        List<Class<?>> all = new ArrayList<>(List.of(SaltTable.class.getDeclaredClasses()));
        all.add(SaltTable.class);
        return all;
    }

    private static void classes() {
        Check.same("at most twelve classes", "true", "" + (all().size() <= 12));
        for (Class<?> c : all()) {
            int fields = 0;
            for (Field f : c.getDeclaredFields()) {
                boolean isStatic = Modifier.isStatic(f.getModifiers());
                fields += isStatic ? 0 : 1;
                Check.same("static " + f.getName() + " is a constant", "true", "" + (!isStatic || Modifier.isFinal(f.getModifiers())));
                boolean open = c == SaltTable.class && !Modifier.isPrivate(f.getModifiers());
                Check.same(f.getName() + " is private", "true", "" + (!open || f.getName().equals("NONE")));
            }
            Check.same(c + " has at most twenty fields", "true", "" + (fields <= 20));
            Check.same(c + " is static", "true", "" + (c == SaltTable.class || Modifier.isStatic(c.getModifiers())));
        }
    }

    private static void words() throws Exception {
        String source = Files.readString(SOURCE);
        for (String word : List.of("try", "catch", "finally", "assert", "synchronized", "->", "::", "package ", "Exact", "System.out",
                "random", "hashCode", "toString", "\" +", "+ \"", "double", "float", "@", "static {")) {
            boolean isWord = word.matches("[a-z]+");
            boolean found = isWord ? source.matches("(?s).*\\b" + Pattern.quote(word) + "\\b.*") : source.contains(word);
            Check.same("the source has " + word, "false", "" + found);
        }
        long imports = source.lines().filter(line -> line.startsWith("import ")).count();
        Check.same("two imports", "2", "" + imports);
        Check.same("signs 1 to 127 alone", "true", "" + source.chars().allMatch(c -> c > 0 && c < 128));
    }

    /** A method begins with a brace behind four or eight blanks of depth and ends with one alone at that depth. */
    private static void lengths() throws Exception {
        List<String> lines = Files.readAllLines(SOURCE);
        for (int i = 0; i < lines.size(); i++) {
            String line = lines.get(i);
            Check.same("line " + (i + 1) + " is not too long", "true", "" + (line.length() <= 130));
            if (line.matches("( {4}| {8})\\S.*\\) .*\\{") && !line.contains(" class ")) {
                String end = line.replaceAll("\\S.*", "") + "}";
                int to = i;
                while (to < lines.size() && !lines.get(to).equals(end)) {
                    to++;
                }
                Check.same("the method of line " + (i + 1) + " is short", "true", "" + (to - i < 60));
            }
        }
    }

    /** But for exceptions no call makes an object: all calls of a run live in one room. */
    private static void room() {
        com.sun.management.ThreadMXBean bean = (com.sun.management.ThreadMXBean) ManagementFactory.getThreadMXBean();
        long id = Thread.currentThread().getId();
        SaltTable x = Check.law(Check.table("diner taste 3 at 0;diner taste 5 at 4;cellar a grains 90 at 0;cellar b grains 50 at 3"),
                "take 1 if has>3 and not(diet or last)");
        manyCalls(x);
        long before = bean.getThreadAllocatedBytes(id);
        long none = bean.getThreadAllocatedBytes(id) - before;
        before = bean.getThreadAllocatedBytes(id);
        manyCalls(x);
        long made = bean.getThreadAllocatedBytes(id) - before;
        // The machine itself may make a little beside; an array a call would be far more.
        Check.same("many calls make " + (made - none) + " bytes, which is next to none", "true", "" + (made - none < 500));
        before = bean.getThreadAllocatedBytes(id);
        SaltTable y = new SaltTable();
        made = bean.getThreadAllocatedBytes(id) - before;
        Check.same("an object of less than 40000 bytes", "true", "" + (made < 40000 && y.fault() == -1));
    }

    private static void manyCalls(SaltTable x) {
        for (int i = 0; i < 3; i++) {
            x.feed(0x64616d70, 0x20352020, 0x20202020, 0x20202020, 0x20202020);
            x.table();
            x.image();
            x.fill(0, 5);
            x.pass(0, 1);
            x.courses(9);
            x.change(0, 5);
            x.undo();
            x.swap();
            x.fewest(0, 24);
            x.bribes(true);
            x.ask(5);
            x.span(50, true);
            x.keenest(50);
            x.least(60);
            x.game(0);
            x.led(0, true);
            x.cellar(0, 7);
            x.back();
        }
    }
}
