import java.util.function.Consumer;
import java.util.function.Supplier;

/** Promises 1 to 42, sentence by sentence: edges, refused calls, nothing there, and all places taken. */
public final class PromiseSentencesTest {
    private static final int NONE = TwoHandles.NONE;
    private static final int LEAST = Integer.MIN_VALUE;
    private static final int GREATEST = Integer.MAX_VALUE;
    private static final String TWO = "asks 1;person 0 0;person 8 0;";
    private static final Sentences s = new Sentences();

    private PromiseSentencesTest() {
    }

    /** A call with one argument that is looked at. */
    interface Call {
        int on(TwoHandles x, int k);
    }

    public static void main(String[] args) {
        face();
        newObject();
        feed();
        town();
        townAnew();
        fault();
        told();
        anotherWhat();
        thinks();
        noSuchPerson();
        noSuchQuestion();
        person();
        door();
        noSuchDoor();
        slate();
        workAndMay();
        next();
        talk();
        earned();
        rows();
        judge();
        todayAndPair();
        boundAndNeed();
        chooseAndStranger();
        night();
        best();
        run();
        daysAndRules();
        rule();
        few();
        pairsAndEdge();
        rest();
        onceAndCalm();
        family();
        starvedAndSlack();
        firmAndTwoDays();
        images();
        count();
        for (int promise = 1; promise <= 42; promise++) {
            s.needPart("Promise " + promise);
        }
        s.end("PromiseSentencesTest");
    }

    private static TwoHandles in(String text) {
        return Check.in(text);
    }

    private static TwoHandles onDay(String text, int day) {
        return Sentences.onDay(text, day);
    }

    /** In the midst of things, without a TOWN, and with all places taken. */
    private static void everywhere(String at, Class<? extends RuntimeException> want, Consumer<TwoHandles> call) {
        s.refused(at, want, Sentences::busy, call);
        s.refused(at + ", no town", want, TwoHandles::new, call);
        s.refused(at + ", all taken", want, Sentences::full, call);
    }

    /** All from least to most are taken, what is outside is refused, and nothing is changed by that. */
    private static void range(String at, Class<? extends RuntimeException> want, Supplier<TwoHandles> made, Call call, int least, int most) {
        for (int k = least; k <= most; k++) {
            TwoHandles x = made.get();
            int taken = k;
            try {
                call.on(x, taken);
            } catch (RuntimeException e) {
                s.due(at + " " + k + " threw " + e, 1, 0);
            }
        }
        for (int k : new int[] {least - 1, most + 1, LEAST, GREATEST}) {
            s.refused(at + " " + k, want, made, x -> call.on(x, k));
        }
    }

    private static void face() {
        s.of("The public face", "public static final int NONE = -1;", () -> s.due("NONE", TwoHandles.NONE, -1));
        s.of("What it is", "An object is used for at most 512 calls after it has been made", () -> {
            TwoHandles x = in(Sentences.FOUR);
            for (int i = 8; i < 511; i++) {
                x.today(NONE, 0);
            }
            s.due("the last call", x.today(NONE, 0), 30);
        });
    }

    private static void newObject() {
        s.of("Promise 1", "No TOWN: nobody, no DOORS", () -> {
            TwoHandles x = new TwoHandles();
            s.due("persons", x.told(1), 0);
            s.due("doors", x.told(2), 0);
            s.due("questions", x.told(0), 0);
            s.due("tape", x.count(4), 0);
            s.due("rows", x.count(2), 0);
            s.due("images", x.count(3), 0);
            s.due("now", x.count(0), 0);
            s.due("fault", x.fault(), NONE);
            s.noSuchPerson("person 0", TwoHandles::new, y -> y.person(0, 0));
            s.noSuchDoor("door 0", TwoHandles::new, y -> y.door(0, 0));
            s.refused("next", IllegalStateException.class, TwoHandles::new, TwoHandles::next);
        });
    }

    private static void feed() {
        s.of("Promise 2", "Twenty bytes come on the TAPE, of each number the highest first: how many there are", () -> {
            TwoHandles x = new TwoHandles();
            s.due("twenty", x.feed(0x61736b73, 0x20343b70, 0x6572736f, 0x6e203132, 0x33342034), 20);
            s.due("twenty more", x.feed(0x3b676170, 0x20373b80, 0, 0, 0), 40);
            s.due("as they came", x.town(27), 1);
            for (int q = 0; q < 4; q++) {
                s.due("digit " + q, x.thinks(0, q), q + 1);
            }
            s.due("led", x.person(0, 0), 4);
            s.due("gap", x.told(3), 7);
            x.feed(0x61736b73, 0x20313bff, 0, 0, 0);
            s.due("a byte has no sign", x.town(8), -9);
            s.due("where it stands", x.fault(), 7);
            x.feed(LEAST, GREATEST, -1, 0, 1);
            s.due("any number", x.count(4), 20);
        });
        s.of("Promise 2", "NONE, doing nothing, if there would be more than 500", () -> {
            TwoHandles x = new TwoHandles();
            for (int i = 1; i <= 25; i++) {
                s.due("feed " + i, x.feed(0x61736b73, 0x20313b20, 0x20202020, 0x20202020, 0x20202020), 20 * i);
            }
            s.due("500 bytes", x.count(4), 500);
            s.due("one more", x.feed(1, 2, 3, 4, 5), NONE);
            s.due("and again", x.feed(-1, -1, -1, -1, -1), NONE);
            s.due("still 500", x.count(4), 500);
            s.due("a second asks at 20", x.town(500), -9);
            s.due("a second asks at 20", x.fault(), 20);
            s.due("there is room again", x.feed(0, 0, 0, 0, 0), 20);
            s.keeps("on a full tape", Sentences::full, y -> y.feed(0, 0, 0, 0, 0), NONE);
        });
    }

    private static void town() {
        s.of("Promise 3", "The first n bytes of the TAPE (empty then) are the TOWN", () -> {
            TwoHandles x = new TwoHandles();
            Check.feed(x, "asks 3;asks 3;gap 9;");
            s.due("the first seven", x.town(7), 0);
            s.due("are told", x.told(0), 3);
            s.due("the tape is empty", x.count(4), 0);
            Check.feed(x, "asks 9;");
            s.due("a fault", x.town(7), -8);
            s.due("the tape is empty behind it", x.count(4), 0);
            Check.feed(x, "asks 2;");
            s.due("new bytes come first", x.town(7), 0);
            s.due("they are told", x.told(0), 2);
            s.due("nothing of an empty tape", x.town(0), -9);
        });
        s.of("Promise 3", "or the FAULT less 10 (the TOWN stays)", () -> {
            s.due("by 1", Check.tell(new TwoHandles(), "asks"), -9);
            s.due("by 2", Check.tell(new TwoHandles(), "asks 9;"), -8);
            s.due("by 3", Check.tell(new TwoHandles(), "asks 1;" + "person 0 0;".repeat(9)), -7);
            TwoHandles x = Sentences.busy();
            TwoHandles twin = Sentences.busy();
            // The whole text is sound but for its last byte: nothing of it may show.
            String other = "asks 1;person 8 4;person 7 4;kin 0 1;feigns 0 9;door 99 99 9;gap 8;day 999;slate 0;x";
            for (TwoHandles each : new TwoHandles[] {x, twin}) {
                each.town(0);
            }
            s.due("a fault at the end", Check.tell(x, other), -9);
            s.due("its place", x.fault(), other.length() - 1);
            Check.tell(x, "");
            s.due("feigns", x.person(1, 2), 4);
            s.due("led", x.person(3, 0), 3);
            s.due("kin", x.family(NONE), 3);
            s.due("a door", x.door(1, 1), 100);
            s.same("all the rest", x, twin);
        });
        s.of("Promise 3", "IllegalArgumentException: n is not 0 to the TAPE's bytes (it stays)", () -> {
            for (int n : new int[] {-1, 21, 40, 500, LEAST, GREATEST}) {
                s.noSuchArgument("n " + n, Sentences::busy, x -> x.town(n));
            }
            s.noSuchArgument("an empty tape", TwoHandles::new, x -> x.town(1));
            s.noSuchArgument("a full tape", Sentences::full, x -> x.town(501));
            TwoHandles x = Sentences.busy();
            s.due("just all of it", x.town(20), 1);
            s.due("the tape stayed when refused", new TwoHandles().town(0), -9);
        });
    }

    private static void townAnew() {
        s.of("Promise 3", "(all begins anew, no ROWS, no IMAGES): how many PERSONS", () -> {
            for (TwoHandles x : new TwoHandles[] {Sentences.busy(), Sentences.full()}) {
                x.town(0);
                s.due("persons", Check.tell(x, Sentences.FOUR), 4);
                TwoHandles twin = in(Sentences.FOUR);
                s.due("no rows", x.count(2), 0);
                s.due("no images", x.count(3), 0);
                s.due("none to restore", x.restore(), -1);
                s.due("kin of before", x.told(5), 1);
                s.due("feigns of before", x.person(0, 2), 0);
                s.same("as on a new object", x, twin);
            }
            TwoHandles kin = in("asks 1;" + "person 0 0;".repeat(3) + "kin 0 1;kin 1 2;feigns 0 9;feigns 2 8;");
            Check.tell(kin, "asks 1;" + "person 0 0;".repeat(3) + "kin 0 2;feigns 1 7;x");
            s.due("three", Check.tell(kin, "asks 1;" + "person 0 0;".repeat(3)), 3);
            s.due("no kin of before", kin.told(5), 0);
            for (int p = 0; p < 3; p++) {
                s.due("no kin of before", kin.person(p, 3), 0);
                s.due("no feigns of before", kin.person(p, 2), 0);
            }
            TwoHandles y = Sentences.full();
            y.town(0);
            s.due("nobody", Check.tell(y, "asks 1;"), 0);
            s.due("gap without", y.told(3), 4);
            s.due("day without", y.told(4), 480);
            s.due("slate without", y.told(6), 0);
            s.due("no slate of before", y.slate(1), 0);
            s.due("eight", Check.tell(y, Sentences.fullText()), 8);
        });
    }

    private static void fault() {
        s.of("Promise 4", "The place of the FAULT of the latest town(); NONE without", () -> {
            TwoHandles x = new TwoHandles();
            s.due("no town yet", x.fault(), NONE);
            Check.tell(x, "asks 1;gap 9;");
            s.due("a place", x.fault(), 11);
            s.due("it stays", x.fault(), 11);
            Check.tell(x, "asks 9;");
            s.due("the latest", x.fault(), 5);
            x.town(0);
            s.due("at 0", x.fault(), 0);
            Check.tell(x, "asks 1;");
            s.due("without", x.fault(), NONE);
            Check.tell(x, "asks 1;" + " ".repeat(492) + "x");
            s.due("the last byte", x.fault(), 499);
            Check.tell(x, "asks 1;gap 4" + " ".repeat(488));
            s.due("behind it", x.fault(), 500);
        });
    }

    private static void told() {
        s.of("Promise 5", "0 QUESTIONS, 1 PERSONS, 2 DOORS, 3 gap, 4 day, 5 pairs of kin, 6 digits of the SLATE", () -> {
            TwoHandles x = in(Sentences.FOUR);
            int[] told = {2, 4, 3, 4, 120, 1, 2};
            for (int what = 0; what < 7; what++) {
                s.due("told " + what, x.told(what), told[what]);
            }
            TwoHandles full = Sentences.full();
            int[] most = {4, 8, 10, 7, 999, 0, 7};
            for (int what = 0; what < 7; what++) {
                s.due("told of a full one " + what, full.told(what), most[what]);
            }
            StringBuilder all = new StringBuilder("asks 1;" + "person 0 0;".repeat(8));
            for (int a = 0; a < 8; a++) {
                for (int b = a + 1; b < 8; b++) {
                    all.append("kin ").append(a).append(' ').append(b).append(';');
                }
            }
            s.due("all are kin", in(all.toString()).told(5), 28);
            s.due("each of seven", in(all.toString()).person(7, 3), 7);
        });
        s.of("Promise 5", "(0 to 6: all 0 without a TOWN; 6: 0 without a SLATE)", () -> {
            TwoHandles x = new TwoHandles();
            for (int what = 0; what < 7; what++) {
                s.due("without a town " + what, x.told(what), 0);
            }
            Check.tell(x, "asks 9;");
            for (int what = 0; what < 7; what++) {
                s.due("behind a fault " + what, x.told(what), 0);
            }
            s.due("without a slate", in("asks 1;").told(6), 0);
        });
    }

    private static void anotherWhat() {
        s.of("Promise 5", "IllegalArgumentException: another what (so below)", () -> {
            Class<IllegalArgumentException> wrong = IllegalArgumentException.class;
            Supplier<TwoHandles> busy = Sentences::busy;
            range("told", wrong, busy, TwoHandles::told, 0, 6);
            range("told, no town", wrong, TwoHandles::new, TwoHandles::told, 0, 6);
            range("person", wrong, busy, (x, k) -> x.person(0, k), 0, 3);
            range("door", wrong, busy, (x, k) -> x.door(0, k), 0, 4);
            range("earned", wrong, busy, TwoHandles::earned, 0, 1);
            range("judge", wrong, busy, TwoHandles::judge, 0, 1);
            range("today", wrong, busy, (x, k) -> x.today(NONE, k), 0, 1);
            range("need", wrong, busy, (x, k) -> x.need(NONE, k), 0, 1);
            range("best", wrong, busy, TwoHandles::best, 0, 2);
            range("run", wrong, busy, (x, k) -> x.run(0, 1, k), 0, 3);
            range("lot", wrong, busy, (x, k) -> x.lot(0, 1, k, 7), 0, 3);
            range("few", wrong, busy, (x, k) -> x.few(3, 0, k), 0, 1);
            range("pairs", wrong, busy, (x, k) -> x.pairs(0, k), 0, 1);
            range("edge", wrong, busy, (x, k) -> x.edge(0, k), 0, 1);
            range("rest", wrong, busy, (x, k) -> x.rest(0, 1, 1, 1, 1, k), 0, 1);
            range("calm", wrong, busy, (x, k) -> x.calm(0, k), 0, 1);
            range("twoDays", wrong, busy, TwoHandles::twoDays, 0, 2);
            range("earned, no town", wrong, TwoHandles::new, TwoHandles::earned, 0, 1);
            range("judge, no town", wrong, TwoHandles::new, TwoHandles::judge, 0, 1);
            range("today, no town", wrong, TwoHandles::new, (x, k) -> x.today(NONE, k), 0, 1);
            range("need, no town", wrong, TwoHandles::new, (x, k) -> x.need(NONE, k), 0, 1);
            range("best, no town", wrong, TwoHandles::new, TwoHandles::best, 0, 2);
            range("run, no town", wrong, TwoHandles::new, (x, k) -> x.run(0, 1, k), 0, 3);
            range("lot, no town", wrong, TwoHandles::new, (x, k) -> x.lot(0, 1, k, 7), 0, 3);
            range("twoDays, no town", wrong, TwoHandles::new, TwoHandles::twoDays, 0, 2);
        });
    }

    private static void thinks() {
        s.of("Promise 6", "What a PERSON thinks of a QUESTION", () -> {
            TwoHandles x = in(Sentences.FOUR);
            int[][] due = {{0, 8}, {8, 0}, {4, 4}, {0, 7}};
            for (int p = 0; p < 4; p++) {
                for (int q = 0; q < 2; q++) {
                    s.due("person " + p + " of " + q, x.thinks(p, q), due[p][q]);
                }
            }
            x.talk(3, 2, 1);
            s.due("now", x.thinks(3, 1), 6);
        });
    }

    private static void noSuchPerson() {
        s.of("Promise 6", "NoSuchElementException: no such PERSON (so below)", () -> {
            Class<java.util.NoSuchElementException> wrong = java.util.NoSuchElementException.class;
            Call[] calls = {(x, k) -> x.thinks(k, 0), (x, k) -> x.person(k, 1), (x, k) -> x.work(0, k, 2), (x, k) -> x.work(0, 2, k),
                (x, k) -> x.may(0, k, 0), (x, k) -> x.may(0, 0, k), (x, k) -> x.row(29, 0, k, 0), (x, k) -> x.row(0, 0, 0, k),
                (x, k) -> x.rest(k, 1, 1, 1, 1, 0), (x, k) -> x.firm(k, 0, 1)};
            for (int i = 0; i < calls.length; i++) {
                range("call " + i, wrong, Sentences::busy, calls[i], 0, 3);
                range("call " + i + ", all taken", wrong, Sentences::full, calls[i], 0, 7);
            }
            for (int k : new int[] {-1, 4, LEAST, GREATEST}) {
                s.noSuchPerson("who talks", Sentences::busy, x -> x.talk(k, 0, 0));
                s.noSuchPerson("with whom", Sentences::busy, x -> x.talk(0, k, 0));
                s.noSuchPerson("both", Sentences::busy, x -> x.talk(k, k, 0));
            }
            for (int k : new int[] {-1, 0, 7}) {
                s.noSuchPerson("nobody thinks", TwoHandles::new, x -> x.thinks(k, 0));
                s.noSuchPerson("nobody", TwoHandles::new, x -> x.person(k, 0));
                s.noSuchPerson("nobody talks", TwoHandles::new, x -> x.talk(k, 1, 0));
                s.noSuchPerson("nobody feigns", TwoHandles::new, x -> x.rest(k, 1, 1, 1, 1, 0));
                s.noSuchPerson("nobody is firm", TwoHandles::new, x -> x.firm(k, 0, 1));
            }
            s.noSuchPerson("nobody at a door", () -> in("asks 1;door 1 1 1;"), x -> x.work(0, 0, 1));
            s.noSuchPerson("one alone", () -> in("asks 1;person 0 0;door 1 1 1;"), x -> x.may(0, 0, 1));
            s.noSuchPerson("ahead of the question", Sentences::busy, x -> x.thinks(4, 9));
            s.noSuchPerson("ahead of what", Sentences::busy, x -> x.person(4, 9));
            s.noSuchPerson("ahead of the day", Sentences::busy, x -> x.row(30, 0, 0, 4));
            s.noSuchPerson("ahead of the stakes", Sentences::busy, x -> x.rest(4, 0, 0, 0, 0, 9));
            s.noSuchPerson("ahead of the rule", Sentences::busy, x -> x.firm(4, 9, 0));
        });
    }

    private static void noSuchQuestion() {
        s.of("Promise 6", "IllegalArgumentException: no such QUESTION (so below)", () -> {
            Class<IllegalArgumentException> wrong = IllegalArgumentException.class;
            Call[] plain = {(x, k) -> x.thinks(0, k), (x, k) -> x.talk(0, 1, k), TwoHandles::night, (x, k) -> x.few(3, k, 0),
                (x, k) -> x.pairs(k, 0), (x, k) -> x.edge(k, 0), TwoHandles::once, (x, k) -> x.calm(k, 0)};
            for (int i = 0; i < plain.length; i++) {
                range("call " + i, wrong, Sentences::busy, plain[i], 0, 1);
                range("call " + i + ", four", wrong, Sentences::full, plain[i], 0, 3);
            }
            Call[] orSlate = {(x, k) -> x.today(k, 0), (x, k) -> x.pair(k, 0), TwoHandles::bound, (x, k) -> x.need(k, 0),
                (x, k) -> x.stranger(k, 0, 0), TwoHandles::slack};
            for (int i = 0; i < orSlate.length; i++) {
                range("call with the slate's " + i, wrong, Sentences::busy, orSlate[i], NONE, 1);
                range("call with the slate's " + i + ", four", wrong, Sentences::full, orSlate[i], NONE, 3);
            }
            for (int k : new int[] {-2, 0, 3}) {
                s.noSuchArgument("today", TwoHandles::new, x -> x.today(k, 0));
                s.noSuchArgument("pair", TwoHandles::new, x -> x.pair(k, 0));
                s.noSuchArgument("bound", TwoHandles::new, x -> x.bound(k));
                s.noSuchArgument("need", TwoHandles::new, x -> x.need(k, 0));
                s.noSuchArgument("slack", TwoHandles::new, x -> x.slack(k));
                s.noSuchArgument("night", TwoHandles::new, x -> x.night(k));
                s.noSuchArgument("pairs", TwoHandles::new, x -> x.pairs(k, 0));
                s.noSuchArgument("edge", TwoHandles::new, x -> x.edge(k, 0));
                s.noSuchArgument("once", TwoHandles::new, x -> x.once(k));
                s.noSuchArgument("calm", TwoHandles::new, x -> x.calm(k, 0));
            }
            s.noSuchArgument("ahead of the door", Sentences::busy, x -> x.pair(2, 9));
        });
    }

    private static void person() {
        s.of("Promise 7", "Of a PERSON: 0 LED, 1 MINUTES left, 2 N of feigns (0 without), 3 how many are kin", () -> {
            TwoHandles x = Sentences.busy();
            x.work(0, 1, 0);
            int[][] due = {{1, 60, 0, 1}, {2, 60, 4, 0}, {0, 120, 0, 0}, {3, 120, 0, 1}};
            for (int p = 0; p < 4; p++) {
                for (int what = 0; what < 4; what++) {
                    s.due("person " + p + " what " + what, x.person(p, what), due[p][what]);
                }
            }
        });
    }

    private static void door() {
        s.of("Promise 8", "0 WORTH, 1 MINUTES, 2 by which DAY, 3 its QUESTION (NONE: the SLATE's), 4 whether it is open (1, 0)", () -> {
            TwoHandles x = Sentences.busy();
            int[][] due = {{10, 60, 5, NONE, 0}, {20, 100, 1, 1, 1}, {5, 30, 0, NONE, 0}};
            for (int d = 0; d < 3; d++) {
                for (int what = 0; what < 5; what++) {
                    s.due("door " + d + " what " + what, x.door(d, what), due[d][what]);
                }
            }
            s.due("about 0, which is not none", in("asks 1;door 1 1 1 0;").door(0, 3), 0);
            s.due("the tenth", Sentences.full().door(9, 0), 99);
            s.due("the tenth is open", Sentences.full().door(9, 4), 1);
        });
    }

    private static void noSuchDoor() {
        s.of("Promise 8", "IndexOutOfBoundsException: no such DOOR (so below)", () -> {
            Class<IndexOutOfBoundsException> wrong = IndexOutOfBoundsException.class;
            Call[] calls = {(x, k) -> x.door(k, 0), (x, k) -> x.work(k, 0, 1), (x, k) -> x.may(k, 0, 1), (x, k) -> x.row(0, k, 0, 1),
                (x, k) -> x.pair(NONE, k)};
            for (int i = 0; i < calls.length; i++) {
                range("call " + i, wrong, Sentences::busy, calls[i], 0, 2);
                range("call " + i + ", all taken", wrong, Sentences::full, calls[i], 0, 9);
                Call call = calls[i];
                s.noSuchDoor("call " + i + ", no town", TwoHandles::new, x -> call.on(x, 0));
                s.noSuchDoor("call " + i + ", no doors", () -> in(TWO), x -> call.on(x, 0));
            }
            s.noSuchDoor("ahead of what", Sentences::busy, x -> x.door(3, 9));
            s.noSuchDoor("ahead of the persons", Sentences::busy, x -> x.work(3, 4, 4));
            s.noSuchDoor("ahead of the persons", Sentences::busy, x -> x.may(-1, 4, 4));
            s.noSuchDoor("ahead of the persons and the day", Sentences::busy, x -> x.row(30, 3, 4, 4));
        });
    }

    private static void slate() {
        s.of("Promise 9", "IllegalArgumentException: no such DAY", () -> {
            range("day", IllegalArgumentException.class, Sentences::busy, TwoHandles::slate, 0, 29);
            range("day, no town", IllegalArgumentException.class, TwoHandles::new, TwoHandles::slate, 0, 29);
        });
        s.of("Promise 9", "The SLATE's QUESTION of a DAY", () -> {
            TwoHandles x = Sentences.busy();
            for (int day = 0; day < 30; day++) {
                s.due("day " + day, x.slate(day), day % 2);
            }
            s.due("without a town", new TwoHandles().slate(29), 0);
            s.due("without a slate", in("asks 4;").slate(29), 0);
        });
    }

    private static void workAndMay() {
        s.of("Promise 10", "how far apart they are behind it", () -> {
            s.due("as far as ahead of it", in(TWO + "door 1 1 1;").work(0, 0, 1), 8);
            s.due("of one mind", in("asks 1;person 0 4;person 8 4;door 1 1 1;").work(0, 1, 0), 0);
            s.due("of its question", in("asks 2;person 00 1;person 84 1;door 1 1 1 1;").work(0, 0, 1), 2);
        });
        s.of("Promise 10", "or by what it ERRS, less than 0", () -> {
            String town = "asks 1;person 0 0;person 8 0;person 8 0;kin 0 1;door 1 1 1;door 1 1 0;door 1 31 1;day 30;";
            Supplier<TwoHandles> late = () -> {
                TwoHandles x = in(town);
                x.work(0, 0, 2);
                x.next();
                return x;
            };
            s.keeps("by 1", late, x -> x.work(0, 0, 2), -1);
            s.keeps("by 2", late, x -> x.work(1, 0, 2), -2);
            s.keeps("by 3", late, x -> x.work(2, 0, 1), -3);
            s.keeps("by 3", late, x -> x.work(2, 0, 0), -3);
            s.keeps("by 4", late, x -> x.work(2, 0, 2), -4);
            s.keeps("by 5", () -> in("asks 1;person 0 0;person 3 0;door 1 1 1;"), x -> x.work(0, 0, 1), -5);
        });
        s.of("Promise 11", "By what it would ERR (0: not)", () -> {
            s.keeps("not", Sentences::busy, x -> x.may(0, 0, 1), 0);
            s.keeps("by 1", Sentences::busy, x -> x.may(1, 0, 1), 1);
            s.keeps("by 2", Sentences::busy, x -> x.may(2, 0, 1), 2);
            s.keeps("by 3", Sentences::busy, x -> x.may(0, 3, 0), 3);
            s.keeps("by 4", () -> in(TWO + "door 1 31 1;day 30;"), x -> x.may(0, 1, 0), 4);
            s.keeps("by 5", Sentences::busy, x -> x.may(0, 2, 3), 5);
        });
    }

    private static void next() {
        s.of("Promise 12", "The next DAY: which one; -1: it is the last one", () -> {
            TwoHandles x = in(TWO + "door 1 30 29;door 1 30 29;day 30;");
            for (int day = 1; day <= 28; day++) {
                s.due("next", x.next(), day);
            }
            s.due("the last but one becomes the last", x.next(), 29);
            x.work(0, 0, 1);
            s.due("it is the last", x.next(), -1);
            s.due("no minutes anew", x.may(1, 0, 1), 4);
            s.due("still", x.next(), -1);
            s.due("now", x.count(0), 29);
            s.due("nobody", in("asks 1;").next(), 1);
        });
        s.of("Promise 12", "IllegalStateException: there is no TOWN", () -> {
            s.refused("a new object", IllegalStateException.class, TwoHandles::new, TwoHandles::next);
            s.refused("behind a fault", IllegalStateException.class, () -> {
                TwoHandles x = new TwoHandles();
                Check.tell(x, "asks 9;");
                return x;
            }, TwoHandles::next);
        });
    }

    private static void talk() {
        s.of("Promise 13", "IllegalArgumentException: also if they are one", () -> {
            for (int p = 0; p < 4; p++) {
                int one = p;
                s.noSuchArgument("one", Sentences::busy, x -> x.talk(one, one, 0));
            }
            s.noSuchPerson("no such person comes first", Sentences::busy, x -> x.talk(4, 4, 9));
        });
        s.of("Promise 13", "what he thinks then", () -> {
            s.due("up", in("asks 1;person 7 0;person 8 0;").talk(0, 1, 0), 8);
            s.due("down", in("asks 1;person 1 0;person 0 0;").talk(0, 1, 0), 0);
            s.keeps("of one mind", () -> in("asks 1;person 4 0;person 4 0;"), x -> x.talk(0, 1, 0), 4);
        });
    }

    private static void earned() {
        s.of("Promise 14", "WORTH of all DOORS that are open (what 0), of those it is too late for and that are not (1)", () -> {
            TwoHandles x = in(TWO + "door 1 1 0;door 2 1 1;door 4 1 1;");
            s.due("nothing is open", x.earned(0), 0);
            s.due("nothing is too late", x.earned(1), 0);
            x.work(1, 0, 1);
            s.due("one is open", x.earned(0), 2);
            x.next();
            s.due("one is too late", x.earned(1), 1);
            x.next();
            s.due("what is open is not", x.earned(1), 5);
            s.due("and stays", x.earned(0), 2);
            s.due("none told", in("asks 1;").earned(0) + in("asks 1;").earned(1), 0);
            TwoHandles ten = in(TWO + "door 99 1 0;".repeat(10));
            for (int d = 0; d < 10; d++) {
                ten.work(d, 0, 1);
            }
            s.due("all ten", ten.earned(0), 990);
            s.due("all ten too late", onDay(TWO + "door 99 1 0;".repeat(10), 1).earned(1), 990);
        });
    }

    private static void rows() {
        s.of("Promise 15", "A ROW: how many there are; -1: there are 30", () -> {
            TwoHandles x = in(TWO + "door 1 1 29;");
            for (int i = 1; i <= 30; i++) {
                s.due("row", x.row(i - 1, 0, 0, 1), i);
            }
            s.due("no more", x.row(0, 0, 0, 1), -1);
            s.keeps("nothing comes", Sentences::full, y -> y.row(0, 0, 0, 1), -1);
            s.due("one may tell any", in(Sentences.FOUR).row(29, 2, 3, 3), 1);
        });
        s.of("Promise 15", "IllegalArgumentException: no such DAY", () -> {
            range("day", IllegalArgumentException.class, Sentences::busy, (x, k) -> x.row(k, 0, 0, 1), 0, 29);
            range("day, all taken", IllegalArgumentException.class, Sentences::full, (x, k) -> x.row(k, 0, 0, 1), 0, 29);
        });
        s.of("Promise 16", "All ROWS go: how many", () -> {
            s.due("none", in("asks 1;").clear(), 0);
            s.due("no town", new TwoHandles().clear(), 0);
            s.due("three", Sentences.busy().clear(), 3);
            TwoHandles x = Sentences.full();
            s.due("thirty", x.clear(), 30);
            s.due("none left", x.count(2), 0);
            s.due("none again", x.clear(), 0);
            s.due("there is room", x.row(0, 0, 0, 1), 1);
        });
    }

    private static void judge() {
        s.of("Promise 17", "JUDGED (what 0), EARNED (1)", () -> {
            TwoHandles none = in(Sentences.FOUR);
            s.due("no rows", none.judge(0), NONE);
            s.due("nothing", none.judge(1), 0);
            TwoHandles x = in(TWO + "door 9 1 0;door 7 1 1;");
            x.row(1, 1, 1, 0);
            s.due("none errs", x.judge(0), NONE);
            s.due("worth", x.judge(1), 7);
            x.row(1, 0, 0, 1);
            s.due("the second by 2", x.judge(0), 12);
            s.due("worth no more", x.judge(1), 7);
            x.next();
            x.next();
            s.due("the first by 6 on day 2", x.judge(0), 6);
            s.due("worth nothing", x.judge(1), 0);
            s.due("all places taken", Sentences.full().judge(0), 5);
        });
    }

    private static void todayAndPair() {
        s.of("Promise 18", "(NONE: the SLATE's): 0 its WORTH, 1 its DOORS", () -> {
            TwoHandles x = in("asks 2;person 00 0;person 08 0;door 3 1 9;door 4 1 9;slate 01;");
            s.due("nothing", x.today(NONE, 0), 0);
            s.due("no doors", x.today(NONE, 1), 0);
            s.due("told", x.today(1, 0), 4);
            s.due("told, its doors", x.today(1, 1), 2);
            x.next();
            s.due("the slate's", x.today(NONE, 0), 4);
            s.due("its doors", x.today(NONE, 1), 2);
            s.due("no town", new TwoHandles().today(NONE, 0), 0);
            s.due("no town, no doors", new TwoHandles().today(NONE, 1), 0);
            s.keeps("nothing stays", Sentences::busy, y -> y.today(0, 0), 10);
        });
        s.of("Promise 19", "10 times the lesser PERSON, and the other one; NONE: the DOOR is none of it", () -> {
            TwoHandles x = in("asks 1;" + "person 4 0;".repeat(6) + "person 0 0;person 8 0;gap 8;door 3 1 9;door 4 1 9;");
            s.due("the last two", x.pair(NONE, 1), 67);
            s.due("none of it", x.pair(NONE, 0), NONE);
            TwoHandles y = in("asks 1;person 8 0;person 0 0;door 3 1 9;");
            s.due("the lesser person, not the lesser thought", y.pair(0, 0), 1);
            y.work(0, 0, 1);
            s.due("it is open", y.pair(0, 0), NONE);
            s.due("nobody can", in("asks 1;person 0 0;door 3 1 9;").pair(NONE, 0), NONE);
            s.keeps("nothing stays", Sentences::busy, z -> z.pair(0, 0), 1);
        });
    }

    private static void boundAndNeed() {
        s.of("Promise 20", "BOUND", () -> {
            s.due("no town", new TwoHandles().bound(NONE), 0);
            s.due("one alone", in("asks 1;person 0 0;door 3 1 9;").bound(0), 0);
            TwoHandles x = in("asks 1;person 0 0;person 8 0;person 8 0;person 8 0;door 3 1 9;door 4 1 9;door 5 1 9;");
            s.due("half of four", x.bound(NONE), 9);
            s.due("more than today", x.today(NONE, 0), 5);
            s.due("told", in("asks 2;person 00 0;person 08 0;door 3 1 9;").bound(1), 3);
            s.keeps("nothing stays", Sentences::busy, y -> y.bound(0), 10);
        });
        s.of("Promise 21", "NEED: 0 how few, 1 the bits", () -> {
            TwoHandles x = new TwoHandles();
            s.due("no town", x.need(NONE, 0), 0);
            s.due("no town", x.need(NONE, 1), 0);
            TwoHandles y = in("asks 2;person 00 0;person 00 0;person 08 0;door 3 1 9;");
            s.due("nobody for the slate's", y.need(NONE, 0), 0);
            s.due("two for the other", y.need(1, 0), 2);
            s.due("who", y.need(1, 1), 5);
            s.keeps("nothing stays", Sentences::busy, z -> z.need(0, 1), 3);
        });
    }

    private static void chooseAndStranger() {
        s.of("Promise 22", "CHOOSE; NONE: there is no TOWN", () -> {
            s.due("no town", new TwoHandles().choose(), NONE);
            s.due("a town of nobody", in("asks 1;").choose(), 0);
            s.due("the last of four", in("asks 4;person 0000 0;person 0004 0;door 3 1 9;").choose(), 3);
            s.keeps("nothing stays", Sentences::busy, x -> x.choose(), 0);
        });
        s.of("Promise 23", "A STRANGER, LED by so many (0 to 4)", () -> {
            range("led", IllegalArgumentException.class, Sentences::busy, (x, k) -> x.stranger(NONE, 0, k), 0, 4);
            TwoHandles x = in("asks 1;person 0 0;door 3 1 9;");
            for (int led = 0; led <= 4; led++) {
                s.due("led " + led, x.stranger(0, 4, led), 3);
            }
        });
        s.of("Promise 23", "IllegalArgumentException: also what he thinks, LED, or there is no TOWN", () -> {
            range("thinks", IllegalArgumentException.class, () -> in("asks 1;person 0 0;door 3 1 9;"), (x, k) -> x.stranger(0, k, 0), 0, 8);
            for (int wrong : new int[] {9, 19, 89, 90, 99, 100, 188, -1, -10}) {
                s.noSuchArgument("two digits: " + wrong, Sentences::busy, x -> x.stranger(NONE, wrong, 0));
            }
            s.due("two digits", Sentences.busy().stranger(NONE, 88, 0) * 0, 0);
            s.noSuchArgument("no town", TwoHandles::new, x -> x.stranger(NONE, 0, 0));
            s.due("a town of nobody", in("asks 1;door 3 1 9;").stranger(NONE, 0, 0), 0);
            // With him two are enough for what takes four without him: need() must not know of him.
            TwoHandles four = in("asks 2;person 00 0;person 80 0;person 00 0;person 80 0;door 3 1 9;door 3 1 9;door 6 1 9 1;");
            s.due("without him", four.need(NONE, 1), 15);
            s.due("as much by other ways", four.stranger(NONE, 88, 0), 3);
            s.due("he is gone", four.need(NONE, 1), 15);
            s.due("he is gone", four.today(NONE, 0), 6);
            s.keeps("nothing stays", Sentences::busy, x -> x.stranger(1, 44, 2), 0);
            s.keeps("with eight others", Sentences::full, x -> x.stranger(NONE, 4444, 4), 0);
        });
    }

    private static void night() {
        s.of("Promise 24", "BEST TALK: 10 times who goes, and to whom; NONE: none is better, or NOW is the last DAY", () -> {
            String town = "asks 1;person 0 0;person 8 0;person 3 0;kin 0 1;gap 6;door 9 30 29;";
            s.due("who goes, and to whom", in(town).night(0), 20);
            s.due("the last night", onDay(town, 28).night(0), 20);
            s.due("the last day", onDay(town, 29).night(0), NONE);
            s.due("none is better", in(TWO + "door 9 30 29;").night(0), NONE);
            s.due("nobody", in("asks 1;").night(0), NONE);
            s.noSuchArgument("no such question on the last day", () -> onDay(town, 29), x -> x.night(1));
            s.keeps("nothing stays", () -> in(town), x -> x.night(0), 20);
            s.due("the greatest answer", in("asks 1;" + "person 4 0;".repeat(5) + "person 8 0;person 0 0;person 3 0;kin 5 6;gap 6;door 9 30 29;").night(0), 76);
        });
    }

    private static void best() {
        s.of("Promise 25", "1 and 2 its WORKS (100 times the DOOR, 10 times the lesser PERSON, and the other one; NONE: none such)", () -> {
            TwoHandles x = in("asks 1;" + "person 4 0;".repeat(6) + "person 0 0;person 8 0;gap 8;" + "door 1 1 9;".repeat(8) + "door 3 1 9;door 4 1 9;");
            s.due("worth", x.best(0), 7);
            s.due("the first", x.best(1), 867);
            s.due("the second", x.best(2), 967);
            TwoHandles one = in(TWO + "door 3 1 9;");
            s.due("one", one.best(1), 1);
            s.due("no second", one.best(2), NONE);
            one.work(0, 0, 1);
            s.due("none", one.best(0), 0);
            s.due("no first", one.best(1), NONE);
            s.due("no second", one.best(2), NONE);
            s.due("no town", new TwoHandles().best(0), 0);
            s.due("no town", new TwoHandles().best(1), NONE);
            s.keeps("nothing stays", Sentences::busy, y -> y.best(1), 1);
        });
    }

    private static void run() {
        s.of("Promise 26", "A RUN: 0 WORTH, 1 how many WORKS, 2 how many DOORS are open then, 3 the WORK it begins with (as of best())", () -> {
            TwoHandles x = in("asks 1;person 4 0;person 0 0;person 8 0;gap 8;door 1 30 9;door 2 30 9;door 4 30 0;day 60;");
            x.work(1, 1, 2);
            int[] one = {4, 1, 2, 212};
            int[] two = {5, 2, 3, 212};
            for (int what = 0; what < 4; what++) {
                s.due("one day, " + what, x.run(0, 1, what), one[what]);
                s.due("two days, " + what, x.run(0, 2, what), two[what]);
            }
            x.next();
            x.work(0, 1, 2);
            int[] none = {0, 0, 2, NONE};
            for (int what = 0; what < 4; what++) {
                s.due("none left, " + what, x.run(0, 29, what), none[what]);
                s.due("no town, " + what, new TwoHandles().run(0, 30, what), what == 3 ? NONE : 0);
            }
        });
        s.of("Promise 27", "The same by LOT", () -> {
            TwoHandles x = in("asks 1;person 4 0;person 0 0;person 8 0;gap 8;door 1 30 9;door 2 30 9;door 4 30 0;day 60;");
            for (int what = 0; what < 4; what++) {
                for (int rule = 0; rule < 4; rule++) {
                    s.due("of one question", x.lot(rule, 2, what, -1), x.run(rule, 2, what));
                }
                s.due("no town", new TwoHandles().lot(0, 30, what, GREATEST), what == 3 ? NONE : 0);
            }
        });
    }

    private static void daysAndRules() {
        Class<IllegalArgumentException> wrong = IllegalArgumentException.class;
        s.of("Promise 26", "IllegalArgumentException: the RULE (0 to 3), DAYS (1 to 30; no more than are left), what", () -> {
            range("rule", wrong, Sentences::busy, (x, k) -> x.run(k, 1, 0), 0, 3);
            range("days", wrong, () -> in(Sentences.FOUR), (x, k) -> x.run(0, k, 0), 1, 30);
            range("days, no town", wrong, TwoHandles::new, (x, k) -> x.run(0, k, 0), 1, 30);
            range("days from day 1", wrong, Sentences::busy, (x, k) -> x.run(0, k, 0), 1, 29);
            range("days from day 29", wrong, () -> onDay(TWO, 29), (x, k) -> x.run(0, k, 0), 1, 1);
            everywhere("all wrong", wrong, x -> x.run(4, 0, 4));
        });
        s.of("Promise 27", "The same by LOT", () -> {
            range("rule", wrong, Sentences::busy, (x, k) -> x.lot(k, 1, 0, 7), 0, 3);
            range("days", wrong, () -> in(Sentences.FOUR), (x, k) -> x.lot(0, k, 0, 7), 1, 30);
            range("days from day 1", wrong, Sentences::busy, (x, k) -> x.lot(0, k, 0, 7), 1, 29);
            range("days from day 29", wrong, () -> onDay(TWO, 29), (x, k) -> x.lot(0, k, 0, 7), 1, 1);
            everywhere("all wrong", wrong, x -> x.lot(-1, 31, -1, 0));
        });
        s.of("Promise 28", "IllegalArgumentException: DAYS", () -> {
            range("days", wrong, () -> in(Sentences.FOUR), TwoHandles::rule, 1, 30);
            range("days, no town", wrong, TwoHandles::new, TwoHandles::rule, 1, 30);
            range("days from day 1", wrong, Sentences::busy, TwoHandles::rule, 1, 29);
            range("days from day 29", wrong, () -> onDay(TWO, 29), TwoHandles::rule, 1, 1);
        });
        s.of("Promise 38", "IllegalArgumentException: the RULE, DAYS", () -> {
            range("rule", wrong, Sentences::busy, (x, k) -> x.firm(0, k, 1), 0, 3);
            range("days", wrong, () -> in(Sentences.FOUR), (x, k) -> x.firm(0, 0, k), 1, 30);
            range("days from day 1", wrong, Sentences::busy, (x, k) -> x.firm(0, 0, k), 1, 29);
            range("days from day 29", wrong, () -> onDay(TWO, 29), (x, k) -> x.firm(0, 0, k), 1, 1);
        });
        s.of("Promise 36", "IllegalArgumentException: the RULE", () -> {
            range("rule", wrong, Sentences::busy, TwoHandles::starved, 0, 3);
            range("rule, no town", wrong, TwoHandles::new, TwoHandles::starved, 0, 3);
        });
    }

    private static void rule() {
        s.of("Promise 28", "The RULE whose RUN is worth most, of these the first", () -> {
            s.due("all alike", in(TWO + "door 3 1 9;").rule(1), 0);
            s.due("all nothing", in("asks 1;").rule(30), 0);
            s.due("no town", new TwoHandles().rule(30), 0);
            // FAR brings 0 and 8 together; JUST leaves them apart enough for a second WORK.
            s.due("just", in("asks 1;person 0 4;person 8 4;person 4 0;door 5 1 0;door 4 1 0;").rule(1), 1);
            // 1 and 2 are led less than 0 and 2, and work twice; then 0 and 2 are still apart. All others begin with 0 and 2.
            s.due("firm", in("asks 1;person 1 3;person 1 2;person 8 1;door 5 1 9;door 4 1 9;door 3 1 9;").rule(1), 2);
            // There are minutes for door 0 or for the two others.
            s.due("worth", in(TWO + "door 9 30 0;door 8 15 0;door 8 15 0;day 30;").rule(1), 3);
            s.due("the longer run", in("asks 1;person 0 4;person 8 4;person 4 0;door 5 1 0;door 4 1 0;").rule(30), 1);
            s.keeps("nothing stays", Sentences::busy, x -> x.rule(29), 0);
        });
    }

    private static void few() {
        s.of("Promise 29", "0 AT MOST (NONE: FOR EVER), 1 SOONEST (NONE: it can't come to that)", () -> {
            TwoHandles x = in(TWO + "person 8 1;kin 0 1;");
            s.due("kin do not", x.few(3, 0, 0), 0);
            s.due("at rest", x.few(3, 0, 1), 0);
            s.due("at most", x.few(5, 0, 0), 5);
            s.due("soonest", x.few(5, 0, 1), 5);
            s.due("for ever", in(TWO).few(3, 0, 0), NONE);
            s.due("never", in(TWO).few(3, 0, 1), NONE);
            s.keeps("nothing stays", Sentences::busy, y -> y.few(15, 0, 0) * 0, 0);
        });
        s.of("Promise 29", "IllegalArgumentException: bits of 2 to 4 PERSONS, the QUESTION, what", () -> {
            for (int bits : new int[] {0, 1, 2, 8, 16, 17, 24, 31, 48, 1 << 30, -1, -2, LEAST, LEAST + 3, GREATEST}) {
                s.noSuchArgument("bits " + bits, Sentences::busy, x -> x.few(bits, 0, 0));
            }
            for (int bits : new int[] {3, 5, 9, 6, 10, 12, 7, 11, 13, 14, 15}) {
                TwoHandles x = in(Sentences.FOUR);
                s.due("bits " + bits, x.few(bits, 0, 0) * 0, 0);
            }
            for (int bits : new int[] {1, 128, 31, 248, 255, 256, 257, 259, 384, -128}) {
                s.noSuchArgument("bits " + bits + " of eight", Sentences::full, x -> x.few(bits, 0, 0));
            }
            for (int bits : new int[] {3, 192, 129, 240, 15, 225}) {
                s.due("bits " + bits + " of eight", Sentences.full().few(bits, 3, 1) * 0, 0);
            }
            s.noSuchArgument("no town", TwoHandles::new, x -> x.few(3, 0, 0));
            s.noSuchArgument("all wrong", Sentences::busy, x -> x.few(0, 9, 9));
        });
    }

    private static void pairsAndEdge() {
        s.of("Promise 30", "PAIRS (what 0), THREES (1)", () -> {
            TwoHandles x = in("asks 2;person 00 0;person 04 0;person 08 0;person 48 0;");
            s.due("pairs of 0", x.pairs(0, 0), 3);
            s.due("threes of 0", x.pairs(0, 1), 0);
            s.due("pairs of 1", x.pairs(1, 0), 5);
            s.due("threes of 1", x.pairs(1, 1), 2);
            s.keeps("nothing stays", Sentences::busy, y -> y.pairs(0, 0) * 0, 0);
        });
        s.of("Promise 31", "EDGE of a pair (what 0), of three (1); 0: there are none", () -> {
            TwoHandles x = in("asks 2;person 00 0;person 03 0;person 08 0;person 08 0;");
            s.due("all of one mind", x.edge(0, 0), 0);
            s.due("no three", x.edge(0, 1), 0);
            s.due("a pair", x.edge(1, 0), 8);
            s.due("three", x.edge(1, 1), 3);
            x.talk(1, 2, 1);
            s.due("as they think now", x.edge(1, 1), 4);
            s.keeps("nothing stays", Sentences::busy, y -> y.edge(1, 1) * 0, 0);
        });
    }

    private static void rest() {
        s.of("Promise 32", "IllegalArgumentException: w, p, c, g, what", () -> {
            Class<IllegalArgumentException> wrong = IllegalArgumentException.class;
            for (int what = 0; what < 2; what++) {
                int k = what;
                for (int stake : new int[] {0, 100, -1, LEAST, GREATEST}) {
                    s.noSuchArgument("w " + stake, Sentences::busy, x -> x.rest(1, stake, 1, 1, 1, k));
                    s.noSuchArgument("p " + stake, Sentences::busy, x -> x.rest(1, 1, stake, 1, 1, k));
                    s.noSuchArgument("c " + stake, Sentences::busy, x -> x.rest(1, 1, 1, stake, 1, k));
                    s.noSuchArgument("g " + stake, Sentences::busy, x -> x.rest(1, 1, 1, 1, stake, k));
                }
            }
            s.due("the least", Sentences.busy().rest(0, 1, 1, 1, 1, 0), 500);
            s.due("the greatest", Sentences.busy().rest(0, 99, 99, 99, 99, 0), 500);
            s.refused("all wrong", wrong, Sentences::busy, x -> x.rest(0, 0, 0, 0, 0, 9));
        });
        s.of("Promise 32", "AT REST, of a PERSON: LOOKED at (what 0), FEIGNED (1)", () -> {
            TwoHandles x = in(Sentences.FOUR);
            s.due("looked at", x.rest(1, 1, 9, 2, 10, 0), 166);
            s.due("feigned", x.rest(1, 1, 9, 2, 10, 1), 333);
            s.due("who does not feign", x.rest(0, 1, 9, 2, 10, 1), 200);
        });
    }

    private static void onceAndCalm() {
        s.of("Promise 33", "AT ONE TIME", () -> {
            TwoHandles x = in("asks 2;person 00 0;person 08 0;person 00 0;person 08 0;person 44 0;");
            s.due("of 0", x.once(0), 1);
            s.due("of 1", x.once(1), 2);
            s.keeps("nothing stays", Sentences::busy, y -> y.once(1) * 0, 0);
        });
        s.of("Promise 34", "CALM: 0 how many, 1 the bits", () -> {
            TwoHandles x = in("asks 2;person 00 0;person 08 0;person 00 0;person 08 0;person 44 0;");
            s.due("of 0", x.calm(0, 0), 4);
            s.due("who", x.calm(0, 1), 15);
            s.due("of 1", x.calm(1, 0), 2);
            s.due("who", x.calm(1, 1), 5);
            s.keeps("nothing stays", Sentences::busy, y -> y.calm(1, 1) * 0, 0);
        });
    }

    private static void family() {
        s.of("Promise 35", "FAMILIES: how many there are; with a PERSON: of how many his is; 0 without a TOWN", () -> {
            s.due("no town", new TwoHandles().family(NONE), 0);
            s.due("nobody", in("asks 1;").family(NONE), 0);
            TwoHandles x = in(Sentences.FOUR);
            s.due("three", x.family(NONE), 3);
            s.due("of two", x.family(3), 2);
            s.due("of one", x.family(2), 1);
        });
        s.of("Promise 35", "IllegalArgumentException: no such PERSON, and not NONE", () -> {
            range("person", IllegalArgumentException.class, Sentences::busy, TwoHandles::family, NONE, 3);
            range("person, all taken", IllegalArgumentException.class, Sentences::full, TwoHandles::family, NONE, 7);
            range("nobody", IllegalArgumentException.class, () -> in("asks 1;"), TwoHandles::family, NONE, NONE);
        });
    }

    private static void starvedAndSlack() {
        s.of("Promise 36", "STARVED; NONE: never", () -> {
            s.due("never", in(TWO + "door 3 1 9;").starved(0), NONE);
            s.due("no doors", in(TWO).starved(0), NONE);
            s.due("no town", new TwoHandles().starved(3), NONE);
            s.due("at once", in("asks 1;door 3 1 0;").starved(1), 0);
            s.due("on the last day", onDay("asks 1;door 3 1 29;", 29).starved(2), 29);
            // By FAR they come to one mind on day 0; by JUST the third keeps one of them apart.
            String town = "asks 1;person 0 4;person 8 4;person 4 0;day 30;door 5 30 9;door 4 30 9;kin 1 2;";
            s.due("by far", in(town).starved(0), 1);
            s.due("by just", in(town).starved(1), NONE);
            s.keeps("nothing stays", Sentences::busy, x -> x.starved(0), NONE);
        });
        s.of("Promise 37", "SLACK (NONE: the SLATE's QUESTION)", () -> {
            TwoHandles x = in("asks 2;person 00 0;person 57 0;door 3 1 9;slate 01;");
            s.due("the slate's", x.slack(NONE), 5);
            s.due("told", x.slack(1), 7);
            x.next();
            s.due("the slate's of day 1", x.slack(NONE), 7);
            x.work(0, 0, 1);
            s.due("worth nothing", x.slack(NONE), 0);
            s.due("no town", new TwoHandles().slack(NONE), 0);
            s.keeps("nothing stays", Sentences::busy, y -> y.slack(0) * 0, 0);
        });
    }

    private static void firmAndTwoDays() {
        s.of("Promise 38", "FIRM", () -> {
            TwoHandles x = in("asks 1;person 0 2;person 5 0;door 3 1 9;door 4 1 9;");
            s.due("more", x.firm(0, 0, 1), 3);
            s.due("no more", x.firm(1, 0, 1), 0);
            s.due("led as ahead of it", x.person(0, 0), 2);
        });
        s.of("Promise 39", "TWO DAYS: 0 the WORTH, 1 the WORK NOW, 2 that of the next DAY (as of best())", () -> {
            TwoHandles x = in("asks 1;" + "person 4 0;".repeat(6) + "person 0 0;person 8 0;gap 8;" + "door 1 1 9;".repeat(8) + "door 3 1 9;door 4 1 0;");
            s.due("worth", x.twoDays(0), 7);
            s.due("now", x.twoDays(1), 967);
            s.due("the next day", x.twoDays(2), 867);
            s.due("no town", new TwoHandles().twoDays(0), 0);
            s.due("no town", new TwoHandles().twoDays(1), NONE);
            s.due("no town", new TwoHandles().twoDays(2), NONE);
            TwoHandles last = onDay(TWO + "door 3 1 29;", 29);
            s.due("now is the last day", last.twoDays(1), 1);
            s.due("there is none behind it", last.twoDays(2), NONE);
            s.keeps("nothing stays", Sentences::busy, y -> y.twoDays(0), 10);
        });
    }

    private static void images() {
        s.of("Promise 40", "An IMAGE of all but the TOWN, the TAPE and the FAULT: how many there are; -1: there are 3", () -> {
            TwoHandles x = in(Sentences.FOUR);
            s.due("one", x.image(), 1);
            s.due("two", x.image(), 2);
            s.due("three", x.image(), 3);
            s.due("no more", x.image(), -1);
            s.due("still three", x.count(3), 3);
            s.keeps("nothing comes of a fourth", Sentences::full, TwoHandles::image, -1);
            s.due("without a town, too", new TwoHandles().image(), 1);
            x.restore();
            s.due("there is room", x.image(), 3);
        });
        s.of("Promise 41", "All is as in the latest IMAGE, which is gone: how many are left; -1: there is none", () -> {
            TwoHandles x = in(Sentences.FOUR);
            x.work(1, 0, 1);
            x.row(2, 0, 1, 2);
            x.talk(2, 1, 0);
            x.next();
            x.image();
            x.work(0, 0, 1);
            x.talk(3, 1, 1);
            x.clear();
            x.next();
            x.image();
            x.next();
            x.row(0, 1, 1, 1);
            s.due("the latest", x.restore(), 1);
            s.due("now", x.count(0), 2);
            s.due("rows", x.count(2), 0);
            s.due("open", x.count(1), 2);
            s.due("the first", x.restore(), 0);
            TwoHandles twin = in(Sentences.FOUR);
            twin.work(1, 0, 1);
            twin.row(2, 0, 1, 2);
            twin.talk(2, 1, 0);
            twin.next();
            s.same("as it was then", x, twin);
            s.keeps("there is none", () -> in(Sentences.FOUR), TwoHandles::restore, -1);
            s.due("no town", new TwoHandles().restore(), -1);
        });
        s.of("Promise 40", "all but the TOWN, the TAPE and the FAULT", () -> {
            TwoHandles x = in(Sentences.FOUR);
            x.image();
            Check.tell(x, "asks 9;");
            x.feed(1, 2, 3, 4, 5);
            s.due("restored", x.restore(), 0);
            s.due("the tape stays", x.count(4), 20);
            s.due("the fault stays", x.fault(), 5);
            s.due("the town stays", x.told(2), 3);
            x.image();
            x.town(0);
            Check.tell(x, "asks 1;");
            s.due("a town takes the images", x.restore(), -1);
            s.due("and stays", x.told(0), 1);
        });
    }

    private static void count() {
        s.of("Promise 42", "0 NOW, 1 DOORS that are open, 2 ROWS, 3 IMAGES, 4 bytes of the TAPE; NONE for others", () -> {
            int[] busy = {1, 1, 3, 2, 20};
            int[] full = {0, 1, 30, 3, 500};
            TwoHandles x = Sentences.busy();
            TwoHandles y = Sentences.full();
            TwoHandles z = new TwoHandles();
            for (int what = 0; what < 5; what++) {
                s.due("busy " + what, x.count(what), busy[what]);
                s.due("full " + what, y.count(what), full[what]);
                s.due("new " + what, z.count(what), 0);
            }
            for (int other : new int[] {-1, 5, 6, LEAST, GREATEST}) {
                s.due("others " + other, x.count(other), NONE);
                s.due("others " + other, z.count(other), NONE);
            }
        });
    }
}
