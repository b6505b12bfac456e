import java.io.IOException;
import java.io.UncheckedIOException;
import java.nio.file.Files;
import java.nio.file.Path;
import java.util.ArrayList;
import java.util.HashSet;
import java.util.List;
import java.util.Set;
import java.util.function.Consumer;
import java.util.function.Supplier;

/**
 * Sentences of the document, quoted word by word, each with a test of its own. A quotation that does not
 * stand in the part of the document that it names is wrong, and so is a test that looks at nothing.
 */
final class Sentences {
    private static final Path DOCUMENT = Path.of("../shared/DOC.md");

    /** A town with two QUESTIONS, four PERSONS (0 and 3 kin) and three DOORS, of which 1 has a QUESTION of its own. */
    static final String FOUR = "asks 2;person 08 1;person 80 2;person 44 0;person 07 3;kin 0 3;"
            + "door 10 60 5;door 20 100 1 1;door 5 30 0;slate 01;gap 4;day 120;feigns 1 4;";

    private final String document;
    private final Set<String> parts = new HashSet<>();
    private int sentences = 0;
    private int checks = 0;
    private int wrong = 0;
    private String part = "";
    private String words = "";

    Sentences() {
        try {
            document = flat(Files.readString(DOCUMENT));
        } catch (IOException e) {
            throw new UncheckedIOException(e);
        }
    }

    private static String flat(String text) {
        return text.replace("`", "").replaceAll("\\s+", " ");
    }

    /** The words of one part: "Terms 1" to "Terms 5", "The public face", "What it is", "Promise 7". */
    private String wordsOf(String name) {
        if (name.startsWith("Terms ")) {
            int number = Integer.parseInt(name.substring(6));
            int terms = document.indexOf("## Terms");
            int start = number == 1 ? terms : document.indexOf("==== " + number + ".", terms);
            int end = number == 5 ? document.indexOf("## Promise 1:") : document.indexOf("==== " + (number + 1) + ".", terms);
            return document.substring(start, end);
        }
        int start = document.indexOf("## " + name + (name.startsWith("Promise") ? ":" : ""));
        return document.substring(start, document.indexOf("## ", start + 3));
    }

    /** One sentence, or that piece of it which names a case, and its test. */
    void of(String namedPart, String quoted, Runnable test) {
        part = namedPart;
        words = quoted;
        parts.add(namedPart);
        sentences++;
        if (!wordsOf(namedPart).contains(flat(quoted))) {
            complain("these words do not stand there");
        }
        int before = checks;
        try {
            test.run();
        } catch (RuntimeException | AssertionError e) {
            complain("ended by " + e);
        }
        if (checks == before) {
            complain("looks at nothing");
        }
    }

    private void complain(String what) {
        wrong++;
        System.out.println(part + ", '" + words + "': " + what);
    }

    void due(String at, long got, long want) {
        checks++;
        if (got != want) {
            complain(at + " answered " + got + ", due is " + want);
        }
    }

    private static Class<?> thrownBy(Runnable call) {
        try {
            call.run();
        } catch (RuntimeException e) {
            return e.getClass();
        }
        return null;
    }

    /** The call throws just this class, and all is then as on a twin that was never called so. */
    void refused(String at, Class<? extends RuntimeException> want, Supplier<TwoHandles> made, Consumer<TwoHandles> call) {
        checks++;
        TwoHandles x = made.get();
        Class<?> got = thrownBy(() -> call.accept(x));
        if (got != want) {
            complain(at + " threw " + got + ", due is " + want);
        }
        same(at, x, made.get());
    }

    void noSuchArgument(String at, Supplier<TwoHandles> made, Consumer<TwoHandles> call) {
        refused(at, IllegalArgumentException.class, made, call);
    }

    void noSuchPerson(String at, Supplier<TwoHandles> made, Consumer<TwoHandles> call) {
        refused(at, java.util.NoSuchElementException.class, made, call);
    }

    void noSuchDoor(String at, Supplier<TwoHandles> made, Consumer<TwoHandles> call) {
        refused(at, IndexOutOfBoundsException.class, made, call);
    }

    /** The call answers so, and all is then as on a twin that was never called so. */
    void keeps(String at, Supplier<TwoHandles> made, java.util.function.ToIntFunction<TwoHandles> call, int want) {
        TwoHandles x = made.get();
        due(at, call.applyAsInt(x), want);
        same(at, x, made.get());
    }

    /** Reads both objects to the end: they are of no use afterwards. */
    void same(String at, TwoHandles x, TwoHandles twin) {
        checks++;
        List<Integer> got = readOut(x);
        List<Integer> want = readOut(twin);
        if (!got.equals(want)) {
            complain(at + " leaves " + got + ", due is " + want);
        }
    }

    /** All that can be seen of an object, its IMAGES one behind the other, and then its TAPE. */
    private static List<Integer> readOut(TwoHandles x) {
        List<Integer> out = new ArrayList<>();
        out.add(x.fault());
        for (int what = 0; what < 7; what++) {
            out.add(x.told(what));
        }
        int images = x.count(3);
        for (int i = 0; i <= images; i++) {
            readScene(x, out);
            out.add(x.restore());
        }
        int bytes = x.count(4);
        out.add(bytes);
        out.add(x.town(bytes));
        out.add(x.fault());
        return out;
    }

    private static void readScene(TwoHandles x, List<Integer> out) {
        for (int what = 0; what < 4; what++) {
            out.add(x.count(what));
        }
        int questions = x.told(0);
        int persons = x.told(1);
        int doors = x.told(2);
        for (int p = 0; p < persons; p++) {
            for (int q = 0; q < questions; q++) {
                out.add(x.thinks(p, q));
            }
            out.add(x.person(p, 1));
        }
        for (int d = 0; d < doors; d++) {
            out.add(x.door(d, 4));
        }
        for (int what = 0; what < 2; what++) {
            out.add(x.judge(what));
        }
    }

    /** In the midst of things: a DOOR open, ROWS, two IMAGES, DAY 1, a FAULT at 5, and twenty bytes on the TAPE. */
    static TwoHandles busy() {
        TwoHandles x = Check.in(FOUR);
        x.image();
        x.work(1, 0, 1);
        x.row(0, 0, 0, 2);
        x.row(2, 0, 1, 2);
        x.image();
        x.next();
        x.talk(2, 1, 0);
        x.row(1, 0, 1, 3);
        Check.tell(x, "asks 9;");
        Check.feed(x, "asks 3;person 111 1;");
        return x;
    }

    /** All places taken: eight PERSONS, ten DOORS, forty CLAUSES, thirty ROWS, three IMAGES, 500 bytes. */
    static TwoHandles full() {
        TwoHandles x = Check.in(fullText());
        x.work(9, 0, 1);
        for (int i = 0; i < 30; i++) {
            x.row(i, i % 10, i % 8, (i + 1) % 8);
        }
        for (int i = 0; i < 3; i++) {
            x.image();
        }
        for (int i = 0; i < 25; i++) {
            x.feed(0x61736b73, 0x20313b20, 0x20202020, 0x20202020, 0x20202020);
        }
        return x;
    }

    static String fullText() {
        StringBuilder s = new StringBuilder("asks 4;");
        for (int i = 0; i < 8; i++) {
            s.append("person ").append(i).append(8 - i).append(i % 2 * 8).append("4 ").append(i % 5).append(';');
        }
        for (int i = 0; i < 10; i++) {
            s.append("door ").append(90 + i).append(" 240 29").append(i == 9 ? " 2;" : ";");
        }
        s.append("slate 0123012;day 999;gap 8;");
        for (int i = 0; i < 18; i++) {
            s.append("gap ").append(8 - i % 8).append(';');
        }
        return s.toString();
    }

    static TwoHandles onDay(String text, int day) {
        TwoHandles x = Check.in(text);
        for (int i = 0; i < day; i++) {
            x.next();
        }
        return x;
    }

    /** A text with "^" ahead of the byte at which its FAULT of this kind is; further FAULTS behind it change nothing. */
    void fault(int kind, String marked) {
        int place = marked.indexOf('^');
        String text = marked.replace("^", "");
        faultAt(kind, place, text);
        for (String behind : new String[] {";gap 9;", ";;asks 9", " ;person 9 9;" + "door 1 1 1;".repeat(11)}) {
            if (place < text.length() && text.length() + behind.length() <= 500) {
                faultAt(kind, place, text + behind);
            }
        }
    }

    private void faultAt(int kind, int place, String text) {
        TwoHandles x = new TwoHandles();
        due("town of '" + text + "'", Check.tell(x, text), kind - 10);
        due("fault of '" + text + "'", x.fault(), place);
        due("no town behind '" + text + "'", x.told(0), 0);
    }

    /** A text without a FAULT: the object that was told it. */
    TwoHandles fine(String text) {
        TwoHandles x = new TwoHandles();
        int persons = Check.tell(x, text);
        due("town of '" + text + "'", persons, x.told(1));
        due("fault of '" + text + "'", x.fault(), TwoHandles.NONE);
        return x;
    }

    static String times(int n, String text) {
        return text.repeat(n);
    }

    void needPart(String name) {
        if (!parts.contains(name)) {
            wrong++;
            System.out.println("no sentence of " + name);
        }
    }

    /** Prints the sum, and leaves with 1 if an answer was wrong. */
    void end(String test) {
        System.out.println(test + ": " + sentences + " sentences, " + checks + " checks, " + wrong + " wrong");
        if (wrong != 0) {
            System.exit(1);
        }
    }
}
