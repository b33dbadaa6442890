import java.lang.reflect.InvocationTargetException;
import java.lang.reflect.Method;
import java.lang.reflect.Modifier;
import java.nio.charset.StandardCharsets;
import java.util.Arrays;
import java.util.Comparator;
import java.util.List;
import java.util.Random;

/** Drives the class and the plain model by the same calls, drawn from fixed seeds, and compares every answer. */
public final class ModelTest {
    private static final int RUNS = 400;
    private static final int CALLS = 220;
    private static final List<String> DEAR = List.of("swap", "fewest", "frees", "ask", "bribes", "least", "span", "image",
            "back", "undo", "end", "feed");
    private static final List<String> READERS = List.of("table", "law", "bribes", "ask");

    public static void main(String[] args) throws Exception {
        int runs = args.length > 0 ? Integer.parseInt(args[0]) : RUNS;
        int first = args.length > 1 ? Integer.parseInt(args[1]) : 1;
        for (int run = first; run < first + runs; run++) {
            runs(run);
        }
        Check.ends("ModelTest");
    }

    private static void runs(int run) throws Exception {
        Random random = new Random(run);
        Method[] face = Arrays.stream(SaltTable.class.getDeclaredMethods())
                .filter(m -> Modifier.isPublic(m.getModifiers()))
                .sorted(Comparator.comparing(Method::getName)).toArray(Method[]::new);
        SaltTable x = new SaltTable();
        PlainModel y = new PlainModel();
        StringBuilder told = new StringBuilder();
        for (int i = 0; i < 4; i++) {
            String text = i == 0 && run % 3 != 0 ? TextMaker.fullTable(random) : TextMaker.table(random, 0);
            feeds(x, y, told, text.getBytes(StandardCharsets.ISO_8859_1));
            if (!calls(run, x, y, told, method(face, "table"), new Object[0])) {
                return;
            }
        }
        for (int i = 0; i < CALLS; i++) {
            Method m = face[random.nextInt(face.length)];
            if (DEAR.contains(m.getName()) && random.nextInt(4) != 0) {
                continue;
            }
            if (READERS.contains(m.getName()) && random.nextInt(12) != 0) {
                feeds(x, y, told, bytesFor(m.getName(), random, x));
            }
            if (!calls(run, x, y, told, m, argumentsFor(m, random))
                    || !calls(run, x, y, told, method(face, "fault"), new Object[0])) {
                return;
            }
        }
    }

    private static Method method(Method[] face, String name) {
        return Arrays.stream(face).filter(m -> m.getName().equals(name)).findFirst().get();
    }

    private static byte[] bytesFor(String name, Random random, SaltTable x) {
        if (name.equals("table")) {
            return TextMaker.table(random, 2).getBytes(StandardCharsets.ISO_8859_1);
        }
        if (name.equals("law")) {
            return TextMaker.law(random, 3).getBytes(StandardCharsets.ISO_8859_1);
        }
        byte[] rows = new byte[3 * random.nextInt(3)];
        for (int i = 0; i < rows.length; i += 3) {
            int cellar = random.nextInt(Math.max(1, x.count(1)) + (random.nextInt(9) == 0 ? 1 : 0));
            int n = random.nextInt(random.nextInt(9) == 0 ? 27 : 8);
            rows[i] = (byte) cellar;
            rows[i + 1] = (byte) n;
            rows[i + 2] = (byte) (cellar < x.count(1) ? Math.min(255, x.ahead(cellar, n) + random.nextInt(3)) : 0);
        }
        return random.nextInt(9) == 0 ? Arrays.copyOf(rows, random.nextInt(18)) : rows;
    }

    private static Object[] argumentsFor(Method m, Random random) {
        Object[] arguments = new Object[m.getParameterCount()];
        int most = switch (m.getName()) {
            case "takes", "ahead", "goes", "keenest", "trial", "span", "fill" -> 202;
            case "fewest", "ask" -> 26;
            case "least", "log" -> 62;
            case "courses" -> 20;
            case "end" -> 400;
            default -> 10;
        };
        for (int i = 0; i < arguments.length; i++) {
            boolean last = i == arguments.length - 1;
            if (m.getParameterTypes()[i] == boolean.class) {
                arguments[i] = random.nextBoolean();
            } else if (random.nextInt(40) == 0) {
                int[] edges = {-1, Integer.MIN_VALUE, Integer.MAX_VALUE, 200, 201, 100, 101, 24, 25, 60, 61, 12, 14};
                arguments[i] = edges[random.nextInt(edges.length)];
            } else if (m.getName().equals("feed") || m.getName().equals("seed")) {
                arguments[i] = random.nextInt();
            } else if (last || m.getName().equals("log") || arguments.length == 1 || m.getName().equals("change")) {
                arguments[i] = random.nextInt(random.nextInt(3) == 0 ? most : Math.min(most, 6));
            } else {
                arguments[i] = random.nextInt(5);
            }
        }
        if (m.getName().equals("count")) {
            arguments[0] = random.nextInt(15);
        }
        return arguments;
    }

    private static void feeds(SaltTable x, PlainModel y, StringBuilder told, byte[] bytes) {
        told.append("\n  tape ").append(new String(bytes, StandardCharsets.ISO_8859_1));
        Check.feedBytes(x, bytes);
        y.end(0);
        for (int from = 0; from < bytes.length; from += 20) {
            byte[] row = Arrays.copyOf(Arrays.copyOfRange(bytes, from, Math.min(bytes.length, from + 20)), 20);
            y.feed(Check.number(row, 0), Check.number(row, 4), Check.number(row, 8), Check.number(row, 12),
                    Check.number(row, 16));
        }
        y.end(bytes.length);
    }

    private static boolean calls(int run, SaltTable x, PlainModel y, StringBuilder told, Method m, Object[] arguments)
            throws Exception {
        String call = m.getName() + Arrays.toString(arguments);
        String want = answer(PlainModel.class.getDeclaredMethod(m.getName(), m.getParameterTypes()), y, arguments);
        String got = answer(m, x, arguments);
        told.append("\n  ").append(call).append(" = ").append(got);
        Check.same("run " + run + " " + call, want, got);
        if (!want.equals(got)) {
            System.out.println(told);
        }
        return want.equals(got);
    }

    private static String answer(Method m, Object on, Object[] arguments) throws Exception {
        try {
            return String.valueOf(m.invoke(on, arguments));
        } catch (InvocationTargetException e) {
            return "throws." + e.getCause().getClass().getSimpleName();
        }
    }
}
