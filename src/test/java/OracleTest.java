import java.lang.reflect.InvocationTargetException;
import java.lang.reflect.Method;
import java.util.ArrayList;
import java.util.Arrays;
import java.util.List;
import java.util.Random;
import java.util.TreeMap;

/** Long runs of calls, drawn from fixed seeds, on TwoHandles and on the Oracle side by side. */
public final class OracleTest {
    private static final int CALLS_A_RUN = 512;

    private final Random random;
    private final TwoHandles x = new TwoHandles();
    private final Oracle y = new Oracle();
    private final TreeMap<String, Method> faces = new TreeMap<>();
    private final TreeMap<String, Method> oracles = new TreeMap<>();
    private final List<String> log = new ArrayList<>();
    private int calls = 0;
    /** How large the towns of this run are: the Oracle takes long with large ones. */
    private final int size;

    private OracleTest(long seed, int size) {
        random = new Random(seed);
        this.size = size;
        for (Method m : TwoHandles.class.getDeclaredMethods()) {
            if (java.lang.reflect.Modifier.isPublic(m.getModifiers())) {
                faces.put(m.getName(), m);
            }
        }
        for (Method m : Oracle.class.getDeclaredMethods()) {
            if (java.lang.reflect.Modifier.isPublic(m.getModifiers())) {
                oracles.put(m.getName(), m);
            }
        }
        if (!faces.keySet().equals(oracles.keySet())) {
            throw new AssertionError(faces.keySet() + " is not " + oracles.keySet());
        }
    }

    private static String ask(Object on, Method m, Object[] args) throws IllegalAccessException {
        try {
            return String.valueOf(m.invoke(on, args));
        } catch (InvocationTargetException e) {
            StackTraceElement[] frames = e.getCause().getStackTrace();
            // What the library or the machine throws by itself would come from elsewhere, or without a place.
            boolean byItself = frames.length == 0 || !frames[0].getClassName().equals(on.getClass().getName());
            return (byItself ? "the machine throws " : "throws ") + e.getCause().getClass().getName();
        }
    }

    private void call(String name, Object... args) throws IllegalAccessException {
        String got = ask(x, faces.get(name), args);
        String due = ask(y, oracles.get(name), args);
        calls++;
        log.add(name + Arrays.toString(args) + " -> " + got);
        if (!got.equals(due)) {
            log.forEach(System.out::println);
            throw new AssertionError(name + Arrays.toString(args) + " answered " + got + ", due is " + due);
        }
    }

    private int upTo(int n) {
        return random.nextInt(n + 1);
    }

    private String digits(int n, int top) {
        StringBuilder s = new StringBuilder();
        for (int i = 0; i < n; i++) {
            s.append(upTo(top));
        }
        return s.toString();
    }

    private String blanks() {
        return random.nextInt(12) == 0 ? "  ".substring(upTo(2)) : "";
    }

    private String drawTown() {
        int asks = 1 + upTo(3);
        int persons = upTo(size);
        int doors = upTo(size + 2);
        StringBuilder s = new StringBuilder(blanks() + "asks " + asks + ";");
        int led = upTo(4);
        for (int i = 0; i < persons; i++) {
            s.append(blanks()).append("person ").append(digits(asks, 8)).append(' ').append(upTo(led)).append(blanks()).append(';');
        }
        for (int i = 0; i < upTo(3) && persons > 1; i++) {
            int k = upTo(persons - 1);
            s.append("kin ").append(k).append(' ').append((k + 1 + upTo(persons - 2)) % persons).append(';');
        }
        int days = random.nextBoolean() ? 29 : 3;
        int worth = random.nextBoolean() ? 98 : 3;
        for (int i = 0; i < doors; i++) {
            s.append("door ").append(1 + upTo(worth)).append(' ').append(1 + upTo(random.nextBoolean() ? 239 : 40));
            s.append(' ').append(upTo(days)).append(random.nextInt(3) == 0 ? " " + upTo(asks - 1) : "").append(';');
        }
        if (random.nextInt(4) > 0) {
            s.append("gap ").append(1 + upTo(random.nextBoolean() ? 7 : 3)).append(';');
        }
        if (random.nextBoolean()) {
            s.append("day ").append(30 + upTo(random.nextBoolean() ? 969 : 100)).append(';');
        }
        if (random.nextBoolean()) {
            s.append("slate ").append(digits(1 + upTo(6), asks - 1)).append(';').append(blanks());
        }
        for (int i = 0; i < upTo(2) && persons > 0; i++) {
            s.append("feigns ").append(upTo(persons - 1)).append(' ').append(upTo(9)).append(';');
        }
        return s.length() > 500 ? s.substring(0, 500) : s.toString();
    }

    private String spoil(String text) {
        StringBuilder s = new StringBuilder(text);
        String bytes = " ;0123456789abdefgiklnoprstyA_\u0000\u00ff";
        for (int i = 0; i <= upTo(2); i++) {
            int at = upTo(s.length() - 1);
            char c = bytes.charAt(upTo(bytes.length() - 1));
            switch (upTo(4)) {
                case 0 -> s.setCharAt(at, c);
                case 1 -> s.insert(at, c);
                case 2 -> s.deleteCharAt(at);
                case 3 -> s.setLength(at);
                default -> s.append(s.substring(at));
            }
            if (s.length() == 0) {
                s.append('a');
            }
        }
        return s.length() > 500 ? s.substring(0, 500) : s.toString();
    }

    private void tell(String text) throws IllegalAccessException {
        for (int i = 0; i < text.length(); i += 20) {
            Object[] five = new Object[5];
            for (int k = 0; k < 5; k++) {
                int v = 0;
                for (int b = 0; b < 4; b++) {
                    int at = i + 4 * k + b;
                    v = v << 8 | (at < text.length() ? text.charAt(at) : 0);
                }
                five[k] = v;
            }
            call("feed", five);
        }
        log.add("'" + text + "'");
        call("town", text.length());
        call("fault");
    }

    /** One of 0 to the greatest that may be, now and then the next one, which may not be. */
    private int place(int howMany) {
        return random.nextInt(30) == 0 ? howMany : upTo(Math.max(0, howMany - 1));
    }

    private int drawPersons() {
        int bits = 0;
        for (int i = 0; i < 4; i++) {
            bits |= 1 << upTo(Math.max(0, y.told(1) - 1));
        }
        return bits;
    }

    private int drawThoughts() {
        String told = digits(Math.max(1, y.told(0)), random.nextInt(20) == 0 ? 9 : 8);
        return Integer.parseInt(random.nextInt(20) == 0 ? told + "0" : told);
    }

    /** How many numbers, from 0 on, the last parameter of a method may be. */
    private static int whats(String method) {
        switch (method) {
            case "told": return 7;
            case "door": case "count": return 5;
            case "person": case "run": case "lot": case "starved": return 4;
            case "best": case "twoDays": return 3;
            default: return 2;
        }
    }

    /** Mostly what a parameter of this name may be, now and then what it may not be. */
    private Object drawArgument(String method, int place) {
        if (random.nextInt(60) == 0) {
            return new int[] {-2, -1, 31, 500, Integer.MIN_VALUE, Integer.MAX_VALUE}[upTo(5)];
        }
        switch (method + place) {
            case "slate0": case "row0": return place(random.nextBoolean() ? 30 : 4);
            case "few0": return drawPersons();
            case "run1": case "lot1": case "rule0": case "firm2":
                return 1 + place(random.nextBoolean() ? Math.min(4, 30 - y.count(0)) : 30 - y.count(0));
            case "lot3": return random.nextInt();
            case "stranger1": return drawThoughts();
            case "rest1": case "rest2": case "rest3": case "rest4": return 1 + place(99);
            case "work0": case "may0": case "door0": case "row1": case "pair1": return place(y.told(2));
            case "thinks0": case "person0": case "work1": case "work2": case "may1": case "may2": case "talk0":
            case "talk1": case "row2": case "row3": case "rest0": case "firm0": return place(y.told(1));
            case "family0": return place(y.told(1) + 1) - 1;
            case "today0": case "pair0": case "bound0": case "need0": case "stranger0": case "slack0":
                return place(y.told(0) + 1) - 1;
            case "thinks1": case "talk2": case "night0": case "few1": case "pairs0": case "edge0": case "once0":
            case "calm0": return place(y.told(0));
            case "run0": case "lot0": case "firm1": return place(4);
            case "stranger2": return place(5);
            default: return place(whats(method));
        }
    }

    private void drawCall() throws IllegalAccessException {
        List<String> names = new ArrayList<>(faces.keySet());
        names.removeAll(List.of("feed", "town"));
        int draw = random.nextInt(names.size() + 12);
        String name = draw < names.size() ? names.get(draw) : draw < names.size() + 6 ? "work" : "row";
        if (name.equals("next") && random.nextInt(3) > 0) {
            return;
        }
        askOf(name);
    }

    private void compareAll() throws IllegalAccessException {
        for (int w = -1; w < 6; w++) {
            call("count", w);
        }
        for (int p = 0; p < 8; p++) {
            for (int q = 0; q < 4; q++) {
                call("thinks", p, q);
            }
            call("person", p, 1);
        }
    }

    private void go() throws IllegalAccessException {
        int towns = 1 + upTo(3);
        for (int t = 0; t < towns && calls < CALLS_A_RUN; t++) {
            String text = drawTown();
            if (random.nextInt(3) == 0) {
                tell(spoil(text));
            }
            tell(text);
            int skipped = random.nextInt(4) == 0 ? upTo(29) : 0;
            for (int day = 0; day < skipped; day++) {
                call("next");
            }
            int end = Math.min(CALLS_A_RUN - 90, calls + 400 / towns);
            while (calls < end) {
                drawCall();
            }
        }
        compareAll();
    }

    private void readOnly() throws IllegalAccessException {
        for (int i = 0; i < 12; i++) {
            tell(random.nextInt(5) == 0 ? drawTown() : spoil(drawTown()));
            for (int w = 0; w < 7; w++) {
                call("told", w);
            }
        }
    }

    private void fewOnly() throws IllegalAccessException {
        for (int i = 0; i < 6; i++) {
            tell(drawTown());
            int persons = y.told(1);
            for (int bits = 3; bits <= 1 << persons && bits < 32; bits++) {
                call("few", bits, 0, 0);
                call("few", bits, 0, 1);
            }
        }
    }

    /** A town in which much can be opened for long: elsewhere most DOORS are open or too late soon. */
    private String drawWideTown() {
        int asks = 1 + upTo(2);
        int persons = 3 + upTo(size - 3);
        StringBuilder s = new StringBuilder("asks " + asks + ";gap " + (2 + upTo(5)) + ";");
        for (int i = 0; i < persons; i++) {
            s.append("person ").append(digits(asks, 8)).append(' ').append(upTo(4)).append(';');
        }
        if (random.nextBoolean()) {
            s.append("kin 0 ").append(1 + upTo(persons - 2)).append(';');
        }
        for (int i = 0; i < 2 + upTo(size - 2); i++) {
            s.append("door ").append(1 + upTo(20)).append(' ').append(10 + upTo(150)).append(' ').append(29 - upTo(9));
            s.append(random.nextInt(4) == 0 ? " " + upTo(asks - 1) : "").append(';');
        }
        s.append("day ").append(100 + upTo(200)).append(";slate ").append(digits(1 + upTo(6), asks - 1)).append(';');
        return s.toString();
    }

    private void askOf(String name) throws IllegalAccessException {
        Object[] args = new Object[faces.get(name).getParameterCount()];
        for (int i = 0; i < args.length; i++) {
            args[i] = drawArgument(name, i);
        }
        call(name, args);
    }

    private void wideOnly() throws IllegalAccessException {
        String[] asked = {"today", "pair", "pair", "bound", "need", "choose", "stranger", "stranger", "night", "night", "night",
            "best", "run", "lot", "rule", "starved", "slack", "firm", "firm", "firm", "twoDays", "judge", "calm", "once"};
        String[] done = {"work", "talk", "talk", "next", "row", "row", "image", "restore"};
        tell(drawWideTown());
        for (int i = 0; i < 8; i++) {
            for (String name : asked) {
                askOf(name);
            }
            for (int k = upTo(4); k >= 0; k--) {
                askOf(done[upTo(done.length - 1)]);
            }
        }
    }

    public static void main(String[] args) throws IllegalAccessException {
        int scale = args.length > 0 ? Integer.parseInt(args[0]) : 1;
        int runs = 0;
        long calls = 0;
        for (int i = 0; i < 400 * scale; i++) {
            OracleTest t = new OracleTest(1000 + i, i % 40 == 0 ? 8 : 2 + i % 5);
            t.go();
            runs++;
            calls += t.calls;
        }
        for (int i = 0; i < 2000 * scale; i++) {
            OracleTest t = new OracleTest(5000000 + i, 8);
            t.readOnly();
            runs++;
            calls += t.calls;
        }
        for (int i = 0; i < 100 * scale; i++) {
            OracleTest t = new OracleTest(9000000 + i, 5);
            t.fewOnly();
            runs++;
            calls += t.calls;
        }
        for (int i = 0; i < 300 * scale; i++) {
            OracleTest t = new OracleTest(7000000 + i, i % 30 == 0 ? 8 : 4 + i % 3);
            t.wideOnly();
            runs++;
            calls += t.calls;
        }
        System.out.println("OracleTest: " + runs + " runs, " + calls + " calls agree");
    }
}
