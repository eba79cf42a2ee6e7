import java.lang.reflect.Method;
import java.lang.reflect.Modifier;
import java.nio.charset.StandardCharsets;
import java.util.ArrayList;
import java.util.Arrays;
import java.util.Comparator;
import java.util.List;
import java.util.Random;

/** Runs of drawn calls on the class and on the Model: every answer and STATUS must be alike. */
public final class ModelTest {
    private static final String[] NAMES = {
        "ann", "bob", "cid", "dan", "eve", "fay", "gus", "hal", "hot", "old", "iron", "clay",
        "rye", "oat", "ink", "fig", "spelt", "corn", "bun", "abcdefgh"};
    private static final int RUNS = 1500;
    private static final int CALLS = 420;

    private final Random random;
    private final List<String> persons = new ArrayList<>();
    private final List<String> ovens = new ArrayList<>();
    private final List<String> loaves = new ArrayList<>();
    private final List<String> log = new ArrayList<>();
    private final PaperBread x = new PaperBread();
    private final Model y = new Model();
    /** Whether the text that is drawn may have FAULTS. */
    private boolean careless;

    private ModelTest(long seed) {
        random = new Random(seed);
    }

    private int upTo(int n) {
        return random.nextInt(n + 1);
    }

    private boolean rarely(int n) {
        return random.nextInt(n) == 0;
    }

    private String oneOf(List<String> all) {
        boolean any = all.isEmpty() || careless && rarely(60);
        return any ? NAMES[upTo(NAMES.length - 1)] : all.get(upTo(all.size() - 1));
    }

    private String number(int least, int most) {
        if (careless && rarely(80)) {
            return "" + (rarely(2) ? most + 1 : Math.max(0, least - 1));
        }
        int v = least + upTo(Math.min(most - least, rarely(4) ? 999 : 12));
        return rarely(20) ? String.format("%04d", v) : "" + v;
    }

    private String promise() {
        String from = oneOf(persons);
        String to = oneOf(persons);
        for (int i = 0; i < 9 && to.equals(from); i++) {
            to = oneOf(persons);
        }
        return "promise " + number(1, 99) + " of " + oneOf(loaves) + " from " + from + " to " + to
                + (rarely(2) ? " for " + number(0, 999) : "") + ";";
    }

    private String townText() {
        persons.clear();
        ovens.clear();
        loaves.clear();
        StringBuilder text = new StringBuilder();
        int people = careless && rarely(30) ? 9 : 2 + upTo(6);
        for (int i = 0; i < people; i++) {
            String name = NAMES[i % NAMES.length];
            text.append("person ").append(name).append(rarely(2) ? " purse " + number(0, 999) : "");
            text.append(";");
            persons.add(name);
        }
        int hot = careless && rarely(30) ? 5 : upTo(rarely(6) ? 0 : 3) + 1;
        for (int i = 0; i < hot; i++) {
            String name = i < 4 ? NAMES[8 + i] : "none";
            text.append("oven ").append(name).append(rarely(5) ? "" : " rain " + number(0, 16));
            text.append(";");
            ovens.add(name);
        }
        int bread = careless && rarely(30) ? 9 : 1 + upTo(rarely(3) ? 7 : 3);
        for (int i = 0; i < bread; i++) {
            String name = i < 8 ? NAMES[12 + i] : "more";
            text.append("loaf ").append(name).append(" by ").append(oneOf(persons));
            text.append(ovens.isEmpty() || rarely(4) ? "" : " in " + oneOf(ovens));
            text.append(" on ").append(number(0, rarely(6) ? 99 : 5));
            text.append(" slices ").append(number(1, 99)).append(" flour ").append(number(0, 999));
            text.append(";");
            loaves.add(name);
        }
        int promises = careless && rarely(10) ? 17 : upTo(16);
        for (int i = 0; i < promises && text.length() < 850; i++) {
            text.append(promise());
        }
        return spoilt(text.toString(), 900);
    }

    private String test() {
        String sign = new String[] {"<", ">", "="}[upTo(2)];
        return switch (upTo(3)) {
            case 0 -> "day " + sign + " " + number(0, 99);
            case 1 -> "has " + oneOf(persons) + sign + number(0, 999);
            case 2 -> "baked " + oneOf(loaves);
            default -> ovens.isEmpty() ? "day > 1" : "wet " + oneOf(ovens);
        };
    }

    private String step(int within) {
        return switch (upTo(within > 2 && !(careless && rarely(9)) ? 8 : 10)) {
            case 0 -> promise();
            case 1 -> "break " + number(0, 39) + ";";
            case 2, 3 -> "bake " + oneOf(loaves) + ";";
            case 4 -> rarely(30) ? "stop;" : "wait " + number(1, 9) + ";";
            case 5 -> "wait 1; bake " + oneOf(loaves) + ";";
            case 6 -> "eat " + oneOf(persons) + " " + number(1, 99) + ";";
            case 7 -> "pay " + oneOf(persons) + " " + oneOf(persons) + " " + number(1, 999) + ";";
            case 8 -> "wait 1; " + bakeAll();
            case 9 -> "when " + test() + ";" + steps(within + 1, 3) + "end;";
            default -> "loop " + number(1, 99) + ";" + steps(within + 1, 4) + "end;";
        };
    }

    private String bakeAll() {
        StringBuilder text = new StringBuilder();
        for (String loaf : loaves) {
            text.append("bake ").append(loaf).append(";");
        }
        return text.toString();
    }

    private String steps(int within, int most) {
        StringBuilder text = new StringBuilder();
        int many = upTo(most);
        for (int i = 0; i < many; i++) {
            text.append(step(within)).append(rarely(3) ? " " : "");
        }
        return text.toString();
    }

    private String daysText() {
        if (careless && rarely(25)) {
            return "stop;".repeat(29 + upTo(3));
        }
        if (rarely(3)) {
            return "bake " + oneOf(loaves) + ";loop 6;wait 1;" + bakeAll() + "end;"
                    + (rarely(2) ? "eat " + oneOf(persons) + " 3;" : "");
        }
        for (int i = 0; i < 50; i++) {
            String text = steps(0, 10);
            if (text.length() <= 300 && text.chars().filter(c -> c == ';').count() < 30) {
                return spoilt(text, 300);
            }
        }
        return "wait 9;";
    }

    /** Now and then a byte less, more or other than it should be. */
    private String spoilt(String text, int most) {
        StringBuilder b = new StringBuilder(text);
        for (int i = 0; i < 3 && careless && rarely(2) && b.length() > 0; i++) {
            int at = upTo(b.length() - 1);
            String odd = " \n;<>=09azA!\u00e9\u0000enp";
            char c = odd.charAt(upTo(odd.length() - 1));
            switch (upTo(3)) {
                case 0 -> b.deleteCharAt(at);
                case 1 -> b.setCharAt(at, c);
                case 2 -> b.insert(at, c);
                default -> b.setLength(at);
            }
        }
        return b.substring(0, Math.min(b.length(), most));
    }

    private void call(Method m, Object... args) throws ReflectiveOperationException {
        log.add(m.getName() + Arrays.toString(args));
        Object got = m.invoke(x, args);
        Object want = Model.class.getMethod(m.getName(), m.getParameterTypes()).invoke(y, args);
        boolean same = got.equals(want) && x.status() == y.status()
                && x.top() == y.top() && x.bottom() == y.bottom();
        if (!same) {
            System.out.println(String.join("\n", log));
        }
        Check.due(log.get(log.size() - 1) + " as the Model (" + got + ", " + want + ")", same, true);
    }

    private static Method method(String name) {
        for (Method m : PaperBread.class.getDeclaredMethods()) {
            if (Modifier.isPublic(m.getModifiers()) && m.getName().equals(name)) {
                return m;
            }
        }
        throw new IllegalStateException(name);
    }

    private void townOrDays(String taker) throws ReflectiveOperationException {
        careless = rarely(4);
        text(taker.equals("town") ? townText() : daysText(), taker);
    }

    private void text(String text, String taker) throws ReflectiveOperationException {
        log.add("text " + text);
        byte[] bytes = text.getBytes(StandardCharsets.ISO_8859_1);
        for (int at = 0; at < bytes.length; at += 20) {
            Object[] five = new Object[5];
            for (int k = 0; k < 5; k++) {
                int v = 0;
                for (int i = 0; i < 4; i++) {
                    int place = at + 4 * k + i;
                    v = v << 8 | (place < bytes.length ? bytes[place] & 255 : 32);
                }
                five[k] = v;
            }
            call(method("feed"), five);
        }
        call(method(taker), rarely(60) ? bytes.length + upTo(30) : bytes.length);
        call(method("fault"), 0);
        call(method("fault"), 1);
    }

    private int argument() {
        return switch (upTo(99)) {
            case 0 -> -1;
            case 1 -> Integer.MIN_VALUE;
            case 2 -> Integer.MAX_VALUE;
            case 3 -> upTo(10000);
            case 4, 5, 6 -> upTo(100);
            case 7, 8, 9, 10, 11, 12, 13, 14, 15 -> upTo(40);
            case 16, 17, 18, 19, 20, 21, 22, 23, 24 -> upTo(8);
            case 25, 26, 27, 28, 29, 30, 31, 32 -> upTo(5);
            default -> upTo(2);
        };
    }

    private void drawnCall(Method m) throws ReflectiveOperationException {
        Class<?>[] types = m.getParameterTypes();
        Object[] args = new Object[types.length];
        for (int i = 0; i < types.length; i++) {
            if (types[i] == boolean.class) {
                args[i] = rarely(2);
            } else if (types[i] == long.class) {
                args[i] = rarely(12) ? random.nextLong() : (long) upTo(30);
            } else {
                args[i] = argument();
            }
        }
        call(m, args);
    }

    /** What is likelier than by any draw: it keeps TOWNS in which much happens. */
    private void likelyCall() throws ReflectiveOperationException {
        switch (upTo(10)) {
            case 0 -> call(method("make"), 1 + upTo(15), upTo(Math.max(0, loaves.size() - 1)),
                    upTo(Math.max(0, persons.size() - 1)), upTo(Math.max(0, persons.size() - 1)), upTo(9));
            case 1 -> call(method("live"), upTo(9999));
            case 2 -> call(method("odds"), upTo(3), 1 + upTo(20), upTo(9900), 1 + upTo(9));
            case 3 -> call(method("ring"));
            case 4 -> call(method("handOvers"));
            case 5 -> call(method("tray"), upTo(3), upTo(3), upTo(12));
            case 6 -> call(method("write"), upTo(3), upTo(8), (long) upTo(12));
            case 7 -> call(method("keeps"), upTo(3), upTo(3), 1 + upTo(8));
            case 8 -> call(method("pass"), 1 + upTo(rarely(9) ? 8 : 0));
            case 9 -> {
                townOrDays("days");
                call(method("live"), upTo(9999));
                call(method("lived"), upTo(4));
                call(method("many"), 5);
            }
            default -> call(method("bake"), upTo(7));
        }
    }

    private void run(List<Method> methods) throws ReflectiveOperationException {
        townOrDays("town");
        if (!rarely(10)) {
            townOrDays("days");
        }
        for (int i = 0; i < CALLS; i++) {
            Method m = methods.get(upTo(methods.size() - 1));
            boolean seldom = List.of("feed", "town", "days", "pass", "live").contains(m.getName());
            if (rarely(4)) {
                likelyCall();
            } else if (rarely(30)) {
                townOrDays("town");
            } else if (rarely(60)) {
                townOrDays("days");
            } else if (!seldom || rarely(12)) {
                drawnCall(m);
            }
        }
    }

    public static void main(String[] args) throws ReflectiveOperationException {
        List<Method> methods = new ArrayList<>();
        for (Method m : PaperBread.class.getDeclaredMethods()) {
            if (Modifier.isPublic(m.getModifiers())) {
                methods.add(m);
            }
        }
        methods.sort(Comparator.comparing(Method::getName));
        Check.due("public methods", methods.size(), 47);
        int runs = args.length > 0 ? Integer.parseInt(args[0]) : RUNS;
        int from = args.length > 1 ? Integer.parseInt(args[1]) : 0;
        for (int run = from; run < from + runs; run++) {
            new ModelTest(run).run(methods);
        }
        Check.end();
    }
}
