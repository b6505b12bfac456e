import java.util.function.IntUnaryOperator;

/** Promise by promise: ordinary calls, the edges that the document names, and wrong calls. */
public final class PromiseTest {
    private static final int NONE = TwoHandles.NONE;
    private static final Check c = new Check();

    /** Two QUESTIONS, four PERSONS (0 and 3 kin), three DOORS, the SLATE by turns. */
    private static final String FOUR = "asks 2;person 08 1;person 80 2;person 44 0;person 07 3;kin 0 3;"
            + "door 10 60 5;door 20 100 1 1;door 5 30 0;slate 01;gap 4;day 120;feigns 1 4;";

    private PromiseTest() {
    }

    public static void main(String[] args) {
        newObject();
        feed();
        town();
        townWords();
        townNumbers();
        townTooMany();
        fault();
        told();
        thinksAndPerson();
        doorAndSlate();
        workAndMay();
        workComesNearer();
        next();
        talk();
        earned();
        rows();
        judge();
        today();
        pair();
        bound();
        need();
        choose();
        stranger();
        night();
        best();
        run();
        lot();
        rule();
        few();
        pairsAndEdge();
        rest();
        once();
        calm();
        family();
        starved();
        slack();
        firm();
        twoDays();
        images();
        count();
        wrongQuestions();
        wrongDoorsAndPersons();
        withoutTown();
        c.end("PromiseTest");
    }

    private static void newObject() {
        TwoHandles x = new TwoHandles();
        c.due("1 NONE", NONE, -1);
        for (int what = 0; what < 5; what++) {
            c.due("1 count", x.count(what), 0);
        }
        for (int what = 0; what < 7; what++) {
            c.due("1 told", x.told(what), 0);
        }
        c.due("1 fault", x.fault(), NONE);
    }

    private static void feed() {
        TwoHandles x = new TwoHandles();
        for (int i = 1; i <= 25; i++) {
            c.due("2 feed", x.feed(0x61736b73, 0x20313b20, -1, 0, 7), 20 * i);
        }
        c.due("2 feed beyond 500", x.feed(1, 2, 3, 4, 5), NONE);
        c.due("2 nothing done", x.count(4), 500);
        c.due("2 bytes of each number, the highest first", x.town(8), 0);
        c.due("2 asks 1", x.told(0), 1);
        c.due("2 the tape is empty", x.count(4), 0);
        x.feed(0x61736b73, 0x20313b00, 0, 0, 0);
        c.due("2 zero is no blank", x.town(8), -9);
        x.feed(0x61736b73, 0x20313b80, 0, 0, 0);
        c.due("2 bytes have no sign", x.town(8), -9);
        c.due("2 at that byte", x.fault(), 7);
    }

    private static void town() {
        TwoHandles x = Check.in(FOUR);
        c.due("3 persons", x.told(1), 4);
        x.work(1, 0, 1);
        x.next();
        x.row(0, 0, 0, 1);
        x.image();
        Check.feed(x, "asks 3;gap 9;");
        c.dueIllegalArgument("3 more than the tape", () -> x.town(21));
        c.dueIllegalArgument("3 less than 0", () -> x.town(-1));
        c.due("3 the tape stays", x.count(4), 20);
        c.due("3 a fault", x.town(13), -8);
        c.due("3 the tape is empty behind a fault", x.count(4), 0);
        c.due("3 the town stays", x.told(0), 2);
        c.due("3 what was open stays", x.count(1), 1);
        c.due("3 now stays", x.count(0), 1);
        c.due("3 rows stay", x.count(2), 1);
        c.due("3 images stay", x.count(3), 1);
        c.due("3 the first bytes alone", Check.tell(x, "asks 1;") + x.told(0), 1);
        c.due("3 all anew: now", x.count(0), 0);
        c.due("3 all anew: doors", x.count(1), 0);
        c.due("3 all anew: rows", x.count(2), 0);
        c.due("3 all anew: images", x.count(3), 0);
        Check.feed(x, "asks 4; what follows");
        c.due("3 bytes behind n are gone", x.town(7), 0);
        c.due("3 asks 4", x.told(0), 4);
        c.due("3 kin of the town before are gone", Check.tell(x, "asks 1;person 0 0;person 8 0;") + x.told(5), 2);
        c.due("3 gap without", x.told(3), 4);
        c.due("3 day without", x.told(4), 480);
    }

    private static void faultIs(String text, int kind, int place) {
        TwoHandles x = new TwoHandles();
        c.due("3 '" + text + "'", Check.tell(x, text), kind == 0 ? x.told(1) : kind - 10);
        c.due("4 place in '" + text + "'", x.fault(), kind == 0 ? NONE : place);
    }

    private static void townWords() {
        faultIs("", 1, 0);
        faultIs("   ", 1, 3);
        faultIs("asks", 1, 4);
        faultIs("asks ", 1, 5);
        faultIs("asks 1", 1, 6);
        faultIs("asks 1  ", 1, 8);
        faultIs("ask 1;", 1, 0);
        faultIs(" askss 1;", 1, 1);
        faultIs("Asks 1;", 1, 0);
        faultIs("gap 4;", 1, 0);
        faultIs("asks 1;asks 1;", 1, 7);
        faultIs("asks ;", 1, 5);
        faultIs("asks 1 1;", 1, 7);
        faultIs("asks 1;;", 1, 7);
        faultIs("asks 1; 4", 1, 8);
        faultIs("asks 1;pers", 1, 7);
        faultIs("asks 1;people 1 1;", 1, 7);
        faultIs("asks 1;gapz 4;", 1, 7);
        faultIs("asks 1;gapa 4;", 1, 7);
        faultIs("asks 1;gap{4;", 1, 10);
        faultIs("asks 1;gap`4;", 1, 10);
        faultIs("asks 1;gap :;", 1, 11);
        faultIs("asks 1;gap /;", 1, 11);
        faultIs("asks 1;person 0 0", 1, 17);
        faultIs("asks 1;person 0", 1, 15);
        faultIs("asks 1;person 0 x;", 1, 16);
        faultIs("asks 1;gap 4 4;", 1, 13);
        faultIs("asks 1;door 1 1;", 1, 15);
        faultIs("asks 1;door 1 1 1 0 0;", 1, 20);
        faultIs("asks 1;door 1 1 1 a;", 1, 18);
        faultIs("asks 1;slate ;", 1, 13);
        faultIs("asks 1;\t", 1, 7);
        faultIs("asks1;person0 0;person8 4;kin0 1;door1 1 1;gap4;day30;slate0;feigns0 9;", 0, NONE);
        faultIs("  asks  1  ;  person  0  0  ;  door 1 1 1 0 ;  ", 0, NONE);
        faultIs("asks 1;", 0, NONE);
    }

    private static void townNumbers() {
        faultIs("asks 0;", 2, 5);
        faultIs("asks 5;", 2, 5);
        faultIs("asks 10", 2, 5);
        faultIs("asks 99999999999999999999;", 2, 5);
        faultIs("asks 4294967297;", 2, 5);
        faultIs("asks 0004;", 0, NONE);
        faultIs("asks 2;person 0 1;", 2, 14);
        faultIs("asks 2;person 000 1;", 2, 14);
        faultIs("asks 2;person 09 1;", 2, 14);
        faultIs("asks 2;person 90", 2, 14);
        faultIs("asks 2;person 08 5;", 2, 17);
        faultIs("asks 2;person 08 4;", 0, NONE);
        faultIs("asks 1;feigns 0 1;", 2, 14);
        faultIs("asks 1;person 0 0;feigns 1 1;", 2, 25);
        faultIs("asks 1;person 0 0;feigns 0 10;", 2, 27);
        faultIs("asks 1;kin 0 0;", 2, 11);
        faultIs("asks 1;person 0 0;kin 0 0;", 2, 24);
        faultIs("asks 1;person 0 0;kin 0 1;person 0 0;", 2, 24);
        faultIs("asks 1;person 0 0;person 0 0;kin 00 01;", 0, NONE);
        faultIs("asks 1;door 0 1 1;", 2, 12);
        faultIs("asks 1;door 100 1 1;", 2, 12);
        faultIs("asks 1;door 99 0 1;", 2, 15);
        faultIs("asks 1;door 99 241 1;", 2, 15);
        faultIs("asks 1;door 99 240 30;", 2, 19);
        faultIs("asks 1;door 99 240 29 1;", 2, 22);
        faultIs("asks 2;door 99 240 29 1;", 0, NONE);
        faultIs("asks 1;gap 0;", 2, 11);
        faultIs("asks 1;gap 9;", 2, 11);
        faultIs("asks 1;gap 8;gap 1;", 0, NONE);
        faultIs("asks 1;day 29;", 2, 11);
        faultIs("asks 1;day 1000;", 2, 11);
        faultIs("asks 1;day 30;day 999;", 0, NONE);
        faultIs("asks 2;slate 02;", 2, 13);
        faultIs("asks 2;slate 00000000;", 2, 13);
        faultIs("asks 2;slate 0101010;", 0, NONE);
        faultIs("asks 4;slate 4", 2, 13);
    }

    private static String times(int n, String clause) {
        StringBuilder s = new StringBuilder();
        for (int i = 0; i < n; i++) {
            s.append(clause);
        }
        return s.toString();
    }

    private static void townTooMany() {
        String eight = "asks 1;" + times(8, "person 0 0;");
        String ten = "asks 1;" + times(10, "door 1 1 1;");
        String forty = "asks 1;" + times(39, "gap 4;");
        faultIs(eight, 0, NONE);
        faultIs(eight + " person", 3, eight.length() + 1);
        faultIs(eight + "person 99 9;", 3, eight.length());
        faultIs(eight + "feigns 8 1;", 2, eight.length() + 7);
        faultIs(ten, 0, NONE);
        faultIs(ten + "door 1 1 1;", 3, ten.length());
        faultIs(forty, 0, NONE);
        faultIs(forty + "  ", 0, NONE);
        faultIs(forty + "gap 4;", 3, forty.length());
        faultIs(forty + "gap", 3, forty.length());
        faultIs(forty + "gaps", 1, forty.length());
        faultIs(forty + "asks 1;", 1, forty.length());
        faultIs(forty + ";", 1, forty.length());
        faultIs("asks 1;" + times(38, "gap 4;") + "gap 9;gap 4;", 2, 239);
        TwoHandles x = new TwoHandles();
        String full = "asks 1;" + times(493, " ");
        c.due("3 500 bytes", Check.tell(x, full), 0);
        c.due("3 500 bytes told", x.told(0), 1);
    }

    private static void fault() {
        TwoHandles x = new TwoHandles();
        Check.tell(x, "asks 9;");
        c.due("4 place", x.fault(), 5);
        c.due("4 it stays", x.fault(), 5);
        Check.tell(x, "asks 1;");
        c.due("4 none without", x.fault(), NONE);
    }

    private static void told() {
        TwoHandles x = Check.in(FOUR);
        int[] want = {2, 4, 3, 4, 120, 1, 2};
        for (int what = 0; what < want.length; what++) {
            c.due("5 told " + what, x.told(what), want[what]);
        }
        c.dueIllegalArgument("5 what 7", () -> x.told(7));
        c.dueIllegalArgument("5 what -1", () -> x.told(-1));
        TwoHandles y = Check.in("asks 1;person 1 1;person 2 1;kin 0 1;kin 1 0;kin 0 1;gap 2;gap 7;day 50;day 60;");
        c.due("5 kin twice are kin", y.told(5), 1);
        c.due("5 the last gap", y.told(3), 7);
        c.due("5 the last day", y.told(4), 60);
        c.due("5 no slate", y.told(6), 0);
    }

    private static void thinksAndPerson() {
        TwoHandles x = Check.in(FOUR + "feigns 1 6;");
        c.due("6 question 0 first", x.thinks(0, 0), 0);
        c.due("6 question 1", x.thinks(0, 1), 8);
        c.due("6 the last person", x.thinks(3, 1), 7);
        c.dueNoPerson("6 person 4", () -> x.thinks(4, 0));
        c.dueNoPerson("6 person ahead of the question", () -> x.thinks(-1, 9));
        c.dueIllegalArgument("6 question 2", () -> x.thinks(0, 2));
        c.dueIllegalArgument("6 question -1", () -> x.thinks(0, -1));
        c.due("7 led", x.person(3, 0), 3);
        c.due("7 minutes", x.person(3, 1), 120);
        c.due("7 the last feigns", x.person(1, 2), 6);
        c.due("7 no feigns", x.person(0, 2), 0);
        c.due("7 kin", x.person(3, 3), 1);
        c.due("7 no kin", x.person(1, 3), 0);
        c.dueNoPerson("7 person 4", () -> x.person(4, 0));
        c.dueNoPerson("7 person ahead of what", () -> x.person(4, 9));
        c.dueIllegalArgument("7 what 4", () -> x.person(0, 4));
        c.dueIllegalArgument("7 what -1", () -> x.person(0, -1));
    }

    private static void doorAndSlate() {
        TwoHandles x = Check.in(FOUR);
        int[] want = {20, 100, 1, 1, 0};
        for (int what = 0; what < want.length; what++) {
            c.due("8 door 1 what " + what, x.door(1, what), want[what]);
        }
        c.due("8 about the slate's", x.door(0, 3), NONE);
        x.work(1, 0, 1);
        c.due("8 open", x.door(1, 4), 1);
        c.dueNoDoor("8 door 3", () -> x.door(3, 0));
        c.dueNoDoor("8 door ahead of what", () -> x.door(-1, 9));
        c.dueIllegalArgument("8 what 5", () -> x.door(0, 5));
        c.dueIllegalArgument("8 what -1", () -> x.door(0, -1));
        TwoHandles y = Check.in("asks 3;slate 0;slate 2012;");
        int[] days = {2, 0, 1, 2, 2, 0};
        for (int day = 0; day < days.length; day++) {
            c.due("9 slate " + day, y.slate(day), days[day]);
        }
        c.due("9 the last day", y.slate(29), 0);
        c.dueIllegalArgument("9 day 30", () -> y.slate(30));
        c.dueIllegalArgument("9 day -1", () -> y.slate(-1));
        c.due("9 question 0 without", Check.in("asks 3;").slate(7), 0);
    }

    private static void workAndMay() {
        TwoHandles x = Check.in(FOUR);
        c.due("11 may", x.may(1, 0, 1), 0);
        c.due("11 may changes nothing", x.count(1), 0);
        c.due("10 work", x.work(1, 0, 1), 5);
        c.due("10 its own question changes", x.thinks(0, 1), 7);
        c.due("10 and the other one's", x.thinks(1, 1), 2);
        c.due("10 no other question changes", x.thinks(1, 0), 8);
        c.due("10 minutes less", x.person(1, 1), 20);
        c.due("10 not of others", x.person(2, 1), 120);
        c.due("10 errs by 1", x.work(1, 2, 2), -1);
        c.due("10 errs by 3: one", x.work(0, 2, 2), -3);
        c.due("10 errs by 3: kin", x.work(0, 0, 3), -3);
        c.due("10 errs by 4", x.work(0, 0, 1), -4);
        c.due("10 errs by 4: the other one", x.work(0, 2, 1), -4);
        c.due("11 errs by 4", x.may(0, 2, 1), 4);
        x.next();
        c.due("10 errs by 2 ahead of 3", x.work(2, 3, 3), -2);
        c.due("11 errs by 2", x.may(2, 0, 1), 2);
        c.due("10 the slate's question of now: 4 and 7", x.work(0, 2, 3), -5);
        c.due("11 errs by 5", x.may(0, 3, 2), 5);
        c.due("10 just the gap apart is enough", Check.in("asks 1;person 0 0;person 4 0;door 1 240 0;day 240;").work(0, 1, 0), 4);
        c.dueNoDoor("10 door ahead of persons", () -> x.work(3, 9, 9));
        c.dueNoPerson("10 person", () -> x.work(0, 4, 0));
        c.dueNoPerson("10 other", () -> x.work(0, 0, -1));
        c.dueNoDoor("11 door ahead of persons", () -> x.may(-1, 9, 9));
        c.dueNoPerson("11 person", () -> x.may(0, -1, 0));
        c.dueNoPerson("11 other", () -> x.may(0, 0, 4));
    }

    private static void workComesNearer() {
        // 1 and 7 with LED 1 and 4: five steps of six.
        TwoHandles x = Check.in("asks 1;person 7 4;person 1 1;door 1 1 1;door 1 1 1;gap 1;");
        c.due("10 five steps of six", x.work(0, 0, 1), 1);
        c.due("10 the greater", x.thinks(0, 0), 3);
        c.due("10 the lesser", x.thinks(1, 0), 2);
        // 2 and 3, one apart, five steps: both think 2 and 1 by 5, cut.
        c.due("10 no further than to one mind", x.work(1, 0, 1), 0);
        c.due("10 the greater comes", x.thinks(0, 0), 2);
        c.due("10 the lesser stays", x.thinks(1, 0), 2);
        // 0 and 5 with 3 and 4: both think 15 by 7, cut.
        TwoHandles y = Check.in("asks 1;person 0 3;person 5 4;door 1 1 1;");
        c.due("10 seven steps of five", y.work(0, 0, 1), 0);
        c.due("10 cut", y.thinks(0, 0), 2);
        c.due("10 both", y.thinks(1, 0), 2);
        // Just as many steps as they are apart.
        TwoHandles z = Check.in("asks 1;person 6 3;person 0 3;door 1 1 1;");
        c.due("10 six steps of six", z.work(0, 0, 1), 0);
        c.due("10 in the middle", z.thinks(0, 0), 3);
        TwoHandles still = Check.in("asks 1;person 6 0;person 0 0;door 1 1 1;");
        c.due("10 nobody is led", still.work(0, 0, 1), 6);
    }

    private static void next() {
        TwoHandles x = Check.in(FOUR);
        x.work(1, 0, 1);
        c.due("12 next", x.next(), 1);
        c.due("12 minutes anew", x.person(0, 1), 120);
        c.due("12 what is open stays", x.count(1), 1);
        for (int day = 2; day < 30; day++) {
            c.due("12 next", x.next(), day);
        }
        x.work(0, 0, 1);
        c.due("12 the last one", x.next(), -1);
        c.due("12 now stays", x.count(0), 29);
        c.dueThrow("12 no town", IllegalStateException.class, () -> new TwoHandles().next());
    }

    private static void talk() {
        TwoHandles x = Check.in(FOUR);
        c.due("13 a step up", x.talk(2, 1, 0), 5);
        c.due("13 a step down", x.talk(1, 0, 0), 7);
        c.due("13 the other one stays", x.thinks(0, 0), 0);
        c.due("13 no other question", x.thinks(2, 1), 4);
        c.due("13 no minutes", x.person(2, 1), 120);
        c.due("13 kin may talk", x.talk(0, 3, 1), 7);
        c.due("13 of one mind already", x.talk(0, 3, 1), 7);
        c.dueNoPerson("13 person", () -> x.talk(4, 0, 9));
        c.dueNoPerson("13 other", () -> x.talk(0, -1, 0));
        c.dueIllegalArgument("13 question", () -> x.talk(0, 1, 2));
        c.dueIllegalArgument("13 they are one", () -> x.talk(1, 1, 0));
    }

    private static void earned() {
        TwoHandles x = Check.in(FOUR);
        c.due("14 nothing yet", x.earned(0) + x.earned(1), 0);
        x.work(1, 0, 1);
        x.next();
        c.due("14 open", x.earned(0), 20);
        c.due("14 too late", x.earned(1), 5);
        x.next();
        c.due("14 what is open is not too late", x.earned(1), 5);
        c.due("14 and stays open", x.earned(0), 20);
        c.dueIllegalArgument("14 what 2", () -> x.earned(2));
        c.dueIllegalArgument("14 what -1", () -> x.earned(-1));
    }

    private static void rows() {
        TwoHandles x = Check.in(FOUR);
        for (int i = 1; i <= 30; i++) {
            c.due("15 row", x.row(29, 2, 3, 3), i);
        }
        c.due("15 there are 30", x.row(0, 0, 0, 1), -1);
        c.due("15 still 30", x.count(2), 30);
        c.dueNoDoor("15 door ahead of all", () -> x.row(30, 3, 4, 4));
        c.dueNoPerson("15 person ahead of day", () -> x.row(30, 0, 4, 0));
        c.dueNoPerson("15 other ahead of day", () -> x.row(30, 0, 0, -1));
        c.dueIllegalArgument("15 day 30", () -> x.row(30, 0, 0, 1));
        c.dueIllegalArgument("15 day -1", () -> x.row(-1, 0, 0, 1));
        c.due("16 clear", x.clear(), 30);
        c.due("16 none left", x.count(2), 0);
        c.due("16 clear again", x.clear(), 0);
    }

    private static int judged(TwoHandles x, int what, int... rows) {
        x.clear();
        for (int i = 0; i + 3 < rows.length; i += 4) {
            x.row(rows[i], rows[i + 1], rows[i + 2], rows[i + 3]);
        }
        return x.judge(what);
    }

    private static void judge() {
        TwoHandles x = Check.in(FOUR);
        c.due("17 no rows", x.judge(0), NONE);
        c.due("17 no rows earn", x.judge(1), 0);
        c.due("17 fine", judged(x, 0, 0, 1, 0, 1, 1, 0, 0, 1), NONE);
        c.due("17 fine earns", x.judge(1), 30);
        c.due("17 nothing is opened", x.count(1), 0);
        c.due("17 the first is number 0", judged(x, 0, 0, 0, 0, 3), 3);
        c.due("17 errs by 1", judged(x, 0, 0, 1, 0, 1, 1, 1, 0, 2), 11);
        c.due("17 errs by 2", judged(x, 0, 1, 2, 0, 1), 2);
        c.due("17 errs by 4", judged(x, 0, 0, 1, 0, 1, 0, 0, 0, 1), 14);
        c.due("17 minutes anew", judged(x, 0, 0, 1, 0, 1, 2, 0, 0, 1), NONE);
        c.due("17 errs by 5 on the slate of its day", judged(x, 0, 1, 0, 2, 3), 5);
        c.due("17 not on that of today", judged(x, 0, 0, 0, 2, 3), NONE);
        c.due("17 errs by 6 ahead of 3", judged(x, 0, 1, 0, 0, 1, 0, 1, 2, 2), 16);
        c.due("17 behind one that errs", judged(x, 1, 0, 0, 0, 3, 0, 1, 0, 1), 20);
        c.due("17 as if that one were not", judged(x, 1, 0, 0, 0, 3, 0, 0, 0, 1), 10);
        c.due("17 one that errs by 5 is come to all the same", judged(x, 1, 1, 0, 2, 3, 0, 2, 0, 1), 0);
        c.due("17 the first that errs", judged(x, 0, 1, 0, 2, 3, 0, 2, 0, 1), 5);
        x.work(1, 0, 1);
        c.due("17 from now: open", judged(x, 0, 0, 1, 0, 1), 1);
        c.due("17 from now: minutes", judged(x, 0, 0, 0, 0, 1), 4);
        c.due("17 earned by the rows alone", judged(x, 1, 0, 0, 2, 3), 10);
        x.next();
        c.due("17 ahead of now", judged(x, 0, 0, 0, 0, 1), 6);
        c.dueIllegalArgument("17 what 2", () -> x.judge(2));
        c.dueIllegalArgument("17 what -1", () -> x.judge(-1));
    }

    private static void today() {
        TwoHandles x = Check.in(FOUR);
        c.due("18 worth", x.today(NONE, 0), 30);
        c.due("18 doors", x.today(NONE, 1), 3);
        c.due("18 told", x.today(1, 0), 30);
        c.due("18 nothing stays changed", x.count(1), 0);
        x.work(1, 0, 1);
        c.due("18 minutes that are left count", x.today(NONE, 1), 1);
        c.due("18 open doors do not", x.today(NONE, 0), 10);
        x.next();
        // On the slate is question 1: 7, 2, 4, 7.
        c.due("18 the slate of now", x.today(NONE, 0), 10);
        c.due("18 too late", x.today(0, 1), 1);
        c.dueIllegalArgument("18 question 2", () -> x.today(2, 0));
        c.dueIllegalArgument("18 question -2", () -> x.today(-2, 0));
        c.dueIllegalArgument("18 what 2", () -> x.today(NONE, 2));
        c.dueIllegalArgument("18 what -1", () -> x.today(NONE, -1));
        TwoHandles alike = Check.in("asks 1;person 0 0;person 8 0;door 3 1 1;door 7 1 1;door 7 1 1;door 4 1 1;");
        c.due("18 of alike ones the least bits", alike.today(NONE, 1), 2);
        TwoHandles sums = Check.in("asks 1;person 0 0;person 8 0;person 0 0;person 8 0;"
                + "door 5 1 1;door 3 1 1;door 5 1 1;door 3 1 1;");
        c.due("18 two at most", sums.today(NONE, 0), 10);
        c.due("18 which two", sums.today(NONE, 1), 5);
        TwoHandles own = Check.in("asks 2;person 00 0;person 08 0;door 9 1 1 0;door 5 1 1;slate 0;");
        c.due("18 nobody on question 0", own.today(NONE, 0), 0);
        c.due("18 a door's own question stays its own", own.today(1, 0), 5);
    }

    private static void pair() {
        TwoHandles x = Check.in(FOUR);
        c.due("19 the first by whom the others can be had", x.pair(NONE, 0), 2);
        c.due("19 the others", x.pair(NONE, 1), 13);
        c.due("19 none of it", x.pair(NONE, 2), NONE);
        c.dueIllegalArgument("19 question ahead of door", () -> x.pair(2, 9));
        c.dueNoDoor("19 door 3", () -> x.pair(NONE, 3));
        c.dueNoDoor("19 door -1", () -> x.pair(0, -1));
        TwoHandles eight = Check.in("asks 1;person 0 0;person 8 0;person 0 0;person 8 0;person 0 0;person 8 0;"
                + "person 0 0;person 8 0;door 1 1 0;door 1 1 0;door 1 1 0;door 1 1 0;door 1 1 0;");
        int[] want = {1, 23, 45, 67, NONE};
        for (int d = 0; d < want.length; d++) {
            c.due("19 four of five", eight.pair(NONE, d), want[d]);
        }
        c.due("19 of alike ones the least", eight.today(NONE, 1), 15);
        // Door 1 takes only 0 and 3, so door 0 has to be opened by 1 and 2.
        TwoHandles y = Check.in("asks 2;person 00 0;person 80 0;person 00 0;person 08 0;kin 2 3;"
                + "door 1 1 0 0;door 1 1 0 1;kin 1 3;");
        c.due("19 0 is needed behind", y.pair(0, 0), 12);
        c.due("19 at the other door", y.pair(0, 1), 3);
    }

    private static void bound() {
        TwoHandles x = Check.in(FOUR);
        c.due("20 the two greatest", x.bound(NONE), 30);
        TwoHandles y = Check.in("asks 2;person 00 0;person 80 0;person 40 0;person 00 0;person 00 0;"
                + "door 9 1 0;door 8 1 0;door 50 1 0 1;door 7 1 0;");
        c.due("20 half of five, cut; not what nobody could open", y.bound(NONE), 17);
        c.due("20 it may be more than today", y.today(NONE, 0), 17);
        c.due("20 about a question", y.bound(1), 0);
        TwoHandles one = Check.in("asks 1;person 0 0;person 8 0;person 1 0;person 2 0;kin 1 2;kin 1 3;door 9 1 0;door 8 1 0;");
        c.due("20 bound", one.bound(0), 17);
        c.due("20 more than today", one.today(0, 0), 9);
        c.dueIllegalArgument("20 question", () -> x.bound(2));
        c.dueIllegalArgument("20 question -2", () -> x.bound(-2));
    }

    private static void need() {
        TwoHandles x = Check.in(FOUR);
        c.due("21 how few", x.need(NONE, 0), 4);
        c.due("21 the bits", x.need(NONE, 1), 15);
        TwoHandles y = Check.in("asks 1;person 4 0;person 0 0;person 0 0;person 8 0;person 8 0;gap 5;door 9 1 0;");
        c.due("21 two", y.need(0, 0), 2);
        c.due("21 the least bits", y.need(0, 1), 10);
        TwoHandles z = Check.in("asks 1;person 4 0;person 4 0;door 9 1 0;");
        c.due("21 nobody for nothing", z.need(NONE, 0), 0);
        c.due("21 no bits", z.need(NONE, 1), 0);
        c.dueIllegalArgument("21 question", () -> x.need(2, 0));
        c.dueIllegalArgument("21 what 2", () -> x.need(0, 2));
        c.dueIllegalArgument("21 what -1", () -> x.need(0, -1));
    }

    private static void choose() {
        c.due("22 alike: the first", Check.in(FOUR).choose(), 0);
        c.due("22 the best", Check.in("asks 3;person 000 0;person 088 0;door 5 1 0;").choose(), 1);
        c.due("22 the slate does not matter", Check.in("asks 3;slate 2;person 000 0;person 088 0;door 5 1 0;").choose(), 1);
        c.due("22 nobody", Check.in("asks 3;").choose(), 0);
        c.due("22 no town", new TwoHandles().choose(), NONE);
    }

    private static void stranger() {
        TwoHandles x = Check.in("asks 2;person 08 0;door 9 60 1;door 4 60 1 1;slate 01;day 60;");
        c.due("23 alone nothing", x.today(NONE, 0), 0);
        c.due("23 question 0 is the lowest digit", x.stranger(NONE, 88, 0), 9);
        c.due("23 led no matter", x.stranger(NONE, 88, 4), 9);
        c.due("23 only the other door", x.stranger(NONE, 0, 0), 4);
        c.due("23 a question told", x.stranger(1, 0, 0), 9);
        c.due("23 of no use", x.stranger(NONE, 80, 0), 0);
        c.due("23 nothing stays", x.told(1), 1);
        c.dueIllegalArgument("23 a 9", () -> x.stranger(NONE, 49, 0));
        c.dueIllegalArgument("23 another 9", () -> x.stranger(NONE, 94, 0));
        c.dueIllegalArgument("23 too many digits", () -> x.stranger(NONE, 100, 0));
        c.dueIllegalArgument("23 less than 0", () -> x.stranger(NONE, -1, 0));
        c.dueIllegalArgument("23 led 5", () -> x.stranger(NONE, 0, 5));
        c.dueIllegalArgument("23 led -1", () -> x.stranger(NONE, 0, -1));
        c.dueIllegalArgument("23 question 2", () -> x.stranger(2, 0, 0));
        c.dueIllegalArgument("23 no town", () -> new TwoHandles().stranger(NONE, 0, 0));
        TwoHandles nine = Check.in("asks 1;" + times(7, "person 0 0;") + "person 8 0;door 3 1 0;door 2 1 0;kin 0 7;kin 0 1;");
        c.due("23 a ninth, kin to nobody", nine.stranger(0, 8, 0), 2);
        TwoHandles tired = Check.in("asks 1;person 0 0;person 8 0;person 8 0;door 3 60 0;door 2 60 0;day 60;kin 0 2;");
        tired.work(0, 0, 1);
        c.due("23 nobody has minutes", tired.stranger(0, 4, 0), 2);
    }

    private static void night() {
        TwoHandles x = Check.in("asks 1;person 3 1;person 0 1;person 8 0;kin 1 2;door 9 30 5;gap 6;");
        c.due("24 who goes, and to whom", x.night(0), 1);
        c.due("24 nothing stays", x.thinks(0, 0), 3);
        x.talk(0, 1, 0);
        c.due("24 none is better", x.night(0), NONE);
        c.dueIllegalArgument("24 question", () -> x.night(1));
        c.dueIllegalArgument("24 question -1", () -> x.night(-1));
        TwoHandles late = Check.in("asks 1;person 3 1;person 0 1;person 8 0;kin 1 2;door 9 30 0;gap 6;");
        c.due("24 the next day is too late", late.night(0), NONE);
        TwoHandles slate = Check.in("asks 2;person 33 1;person 00 1;person 88 0;kin 1 2;door 9 30 5;gap 6;slate 01;day 30;");
        c.due("24 not the slate of now", slate.night(0), NONE);
        c.due("24 that of the next day", slate.night(1), 1);
        slate.talk(0, 1, 0);
        slate.work(0, 0, 2);
        c.due("24 open by then", slate.night(1), NONE);
        TwoHandles last = Check.in("asks 1;person 3 1;person 0 1;person 8 0;kin 1 2;door 9 30 29;gap 6;");
        for (int day = 0; day < 28; day++) {
            last.next();
        }
        c.due("24 the last night", last.night(0), 1);
        last.next();
        c.due("24 now is the last day", last.night(0), NONE);
        TwoHandles whole = Check.in("asks 1;person 3 0;person 0 0;person 8 0;person 8 0;kin 1 2;kin 1 3;"
                + "door 9 30 5;door 5 30 5;day 30;gap 6;");
        c.due("24 of alike ones the first", whole.night(0), 1);
    }

    private static void best() {
        TwoHandles x = Check.in(FOUR);
        c.due("25 worth", x.best(0), 30);
        c.due("25 the first work", x.best(1), 2);
        c.due("25 the second", x.best(2), 113);
        c.due("25 nothing stays", x.count(1), 0);
        c.dueIllegalArgument("25 what 3", () -> x.best(3));
        c.dueIllegalArgument("25 what -1", () -> x.best(-1));
        TwoHandles none = Check.in("asks 1;person 0 0;person 3 0;door 5 1 0;");
        c.due("25 none", none.best(0), 0);
        c.due("25 no first", none.best(1), NONE);
        c.due("25 no second", none.best(2), NONE);
        TwoHandles one = Check.in("asks 1;person 0 1;person 4 0;door 5 1 0;door 7 1 0;door 7 1 0;");
        c.due("25 one: they come too near for two", one.best(0), 7);
        c.due("25 the first of alike ones", one.best(1), 101);
        c.due("25 no second one", one.best(2), NONE);
        TwoHandles same = Check.in("asks 1;person 0 0;person 4 0;door 4 60 0;door 4 60 0;door 8 120 0;day 120;");
        c.due("25 one ahead of two", same.best(1), 201);
        c.due("25 worth as much", same.best(0), 8);
        TwoHandles order = Check.in("asks 1;person 0 0;person 8 1;person 4 0;door 9 1 0;door 9 1 0;door 9 1 0;");
        c.due("25 by door, lesser, other: first", order.best(1), 1);
        c.due("25 by door, lesser, other: second", order.best(2), 101);
    }

    private static void run() {
        TwoHandles x = Check.in(FOUR);
        c.due("26 far", x.run(0, 1, 3), 101);
        c.due("26 just", x.run(1, 1, 3), 102);
        c.due("26 firm", x.run(2, 1, 3), 102);
        c.due("26 worth", x.run(3, 1, 3), 101);
        c.due("26 sum", x.run(0, 1, 0), 30);
        c.due("26 works", x.run(0, 1, 1), 2);
        c.due("26 doors", x.run(0, 1, 2), 2);
        c.due("26 nothing stays", x.count(1), 0);
        x.work(1, 0, 1);
        c.due("26 doors open already count", x.run(0, 1, 2), 2);
        c.due("26 their worth does not", x.run(0, 1, 0), 10);
        c.due("26 minutes that are left", x.run(0, 1, 3), 23);
        c.dueIllegalArgument("26 rule 4", () -> x.run(4, 1, 0));
        c.dueIllegalArgument("26 rule -1", () -> x.run(-1, 1, 0));
        c.dueIllegalArgument("26 days 0", () -> x.run(0, 0, 0));
        c.dueIllegalArgument("26 days 31", () -> x.run(0, 31, 0));
        c.dueIllegalArgument("26 what 4", () -> x.run(0, 1, 4));
        c.dueIllegalArgument("26 what -1", () -> x.run(0, 1, -1));
        x.next();
        c.due("26 all that are left", x.run(0, 29, 1), 1);
        c.dueIllegalArgument("26 more than are left", () -> x.run(0, 30, 0));
        c.due("26 none begins", Check.in("asks 1;person 0 0;person 3 0;door 5 1 0;").run(0, 30, 3), NONE);
        TwoHandles later = Check.in("asks 2;person 00 0;person 08 0;door 5 1 9;slate 001;");
        c.due("26 it begins on day 2", later.run(0, 2, 3), NONE);
        c.due("26 with the first work of all", later.run(0, 3, 3), 1);
        TwoHandles days = Check.in("asks 1;person 0 0;person 8 0;door 1 30 9;door 2 30 9;door 3 30 9;day 60;");
        c.due("26 minutes of one day", days.run(3, 1, 0), 5);
        c.due("26 minutes anew", days.run(3, 2, 0), 6);
        TwoHandles ties = Check.in("asks 1;person 0 0;person 8 0;person 0 0;door 2 60 9;door 4 120 9;door 3 90 9;");
        for (int rule = 0; rule < 4; rule++) {
            c.due("26 of alike ones the greater worth, then the first", ties.run(rule, 1, 3), 101);
        }
        TwoHandles fractions = Check.in("asks 1;person 0 0;person 8 0;door 33 100 9;door 1 3 9;door 50 151 9;");
        c.due("26 fractions", fractions.run(3, 1, 3), 101);
    }

    /** The SLATE's QUESTIONS of so many DAYS by LOT, as the document draws them. */
    private static int[] draws(int seed, int asks, int days) {
        int[] out = new int[days];
        long s = seed & 0xffffffffL;
        for (int i = 0; i < days; i++) {
            s = (s * 1103515245L + 12345L) % 4294967296L;
            out[i] = (int) (s / 65536 % 32768 % asks);
        }
        return out;
    }

    private static void lot() {
        // Only question 2 opens the door; it opens on the first day on which 2 is drawn.
        TwoHandles x = Check.in("asks 3;person 000 0;person 008 0;door 5 1 29;slate 2;");
        int[] seeds = {0, 1, 7, 77, -3, 12345, Integer.MIN_VALUE, Integer.MAX_VALUE};
        for (int seed : seeds) {
            int[] drawn = draws(seed, 3, 30);
            boolean open = false;
            for (int days = 1; days <= 30; days++) {
                open |= drawn[days - 1] == 2;
                c.due("27 worth by seed " + seed, x.lot(0, days, 0, seed), open ? 5 : 0);
                c.due("27 first by seed " + seed, x.lot(3, days, 3, seed), open ? 1 : NONE);
            }
        }
        c.due("27 works", x.lot(1, 30, 1, 7), 1);
        c.due("27 doors", x.lot(2, 30, 2, 7), 1);
        c.due("27 the slate stays", x.slate(0), 2);
        c.due("27 may still", x.may(0, 0, 1), 0);
        c.dueIllegalArgument("27 rule", () -> x.lot(4, 1, 0, 0));
        c.dueIllegalArgument("27 days", () -> x.lot(0, 31, 0, 0));
        c.dueIllegalArgument("27 days 0", () -> x.lot(0, 0, 0, 0));
        c.dueIllegalArgument("27 what", () -> x.lot(0, 1, 4, 0));
    }

    private static void rule() {
        TwoHandles x = Check.in(FOUR);
        c.due("28 alike: the first", x.rule(1), 0);
        // JUST works with 4 and 0 first, who stay apart enough of 8; FAR brings 0 and 8 together.
        TwoHandles y = Check.in("asks 1;person 0 4;person 8 4;person 4 0;door 5 1 0;door 4 1 0;");
        c.due("28 far", y.run(0, 1, 0), 5);
        c.due("28 just", y.run(1, 1, 0), 9);
        c.due("28 the best", y.rule(1), 1);
        c.dueIllegalArgument("28 days 0", () -> x.rule(0));
        c.dueIllegalArgument("28 days 31", () -> x.rule(31));
        x.next();
        c.dueIllegalArgument("28 more than are left", () -> x.rule(30));
        c.due("28 all that are left", x.rule(29), 0);
    }

    private static void few() {
        TwoHandles x = Check.in("asks 1;person 0 0;person 8 0;person 4 2;gap 2;person 4 2;kin 0 1;");
        c.due("29 kin can not", x.few(3, 0, 0), 0);
        c.due("29 at rest already", x.few(3, 0, 1), 0);
        c.due("29 most", x.few(5, 0, 0), 2);
        c.due("29 soonest", x.few(5, 0, 1), 2);
        c.due("29 to and fro for ever", x.few(7, 0, 0), NONE);
        c.due("29 it can't come to rest", x.few(7, 0, 1), NONE);
        TwoHandles stiff = Check.in("asks 1;person 0 0;person 8 0;gap 2;");
        c.due("29 nobody is led: for ever", stiff.few(3, 0, 0), NONE);
        c.due("29 never at rest", stiff.few(3, 0, 1), NONE);
        // 0 and 8 come both to 4 at once, and all is at rest; each with 4 it takes two WORKS.
        TwoHandles ways = Check.in("asks 2;person 00 4;person 04 0;person 00 0;person 08 4;");
        c.due("29 soonest of three", ways.few(11, 1, 1), 1);
        c.due("29 most of three", ways.few(11, 1, 0), 2);
        c.due("29 of that question", ways.few(11, 0, 0), 0);
        // 4 and 5 come to 3 both, then 4's man to 0 and only then the other one to 3 less 2: by a longer way.
        TwoHandles longer = Check.in("asks 1;person 0 0;person 4 4;person 5 2;gap 3;");
        c.due("29 by the longer way", longer.few(7, 0, 0), 4);
        c.due("29 by the shorter way", longer.few(7, 0, 1), 3);
        c.dueIllegalArgument("29 one", () -> x.few(1, 0, 0));
        c.dueIllegalArgument("29 none", () -> x.few(0, 0, 0));
        c.dueIllegalArgument("29 no such person", () -> x.few(17, 0, 0));
        c.dueIllegalArgument("29 less than 0", () -> x.few(-1, 0, 0));
        c.dueIllegalArgument("29 question", () -> x.few(3, 1, 0));
        c.dueIllegalArgument("29 question -1", () -> x.few(3, -1, 0));
        c.dueIllegalArgument("29 what", () -> x.few(3, 0, 2));
        TwoHandles five = Check.in("asks 1;" + times(5, "person 0 0;"));
        c.dueIllegalArgument("29 five", () -> five.few(31, 0, 0));
        c.due("29 four", five.few(30, 0, 0), 0);
    }

    private static void pairsAndEdge() {
        TwoHandles x = Check.in(FOUR);
        c.due("30 pairs", x.pairs(0, 0), 5);
        c.due("30 threes", x.pairs(0, 1), 2);
        c.due("30 pairs of 1", x.pairs(1, 0), 4);
        c.due("30 threes of 1", x.pairs(1, 1), 1);
        c.due("31 edge of a pair", x.edge(0, 0), 8);
        c.due("31 edge of three", x.edge(0, 1), 4);
        x.work(1, 0, 1);
        c.due("31 as they think now", x.edge(1, 0), 5);
        c.due("30 minutes no matter", x.pairs(0, 0), 5);
        c.due("31 all alike", Check.in("asks 1;person 3 0;person 3 0;").edge(0, 0), 0);
        c.due("31 kin alone", Check.in("asks 1;person 3 0;person 8 0;kin 0 1;").edge(0, 0), 0);
        c.due("31 no three", Check.in("asks 1;person 3 0;person 8 0;").edge(0, 1), 0);
        c.due("31 edge 1 below the gap", Check.in("asks 1;person 3 0;person 4 0;gap 8;").edge(0, 0), 1);
        c.dueIllegalArgument("30 what", () -> x.pairs(0, 2));
        c.dueIllegalArgument("31 what", () -> x.edge(0, -1));
    }

    private static void rest() {
        TwoHandles x = Check.in(FOUR + "feigns 2 9;");
        c.due("32 looked at", x.rest(1, 1, 9, 2, 10, 0), 166);
        c.due("32 feigned", x.rest(1, 1, 9, 2, 10, 1), 333);
        c.due("32 without feigns", x.rest(0, 1, 1, 1, 1, 0), 500);
        c.due("32 1,000 at most", x.rest(1, 3, 1, 1, 1, 0), 1000);
        c.due("32 1,000 at most feigned", x.rest(0, 1, 1, 2, 1, 1), 1000);
        c.due("32 seen through in 1 of 10", x.rest(2, 1, 99, 1, 99, 0), 100);
        c.due("32 feigned, in 1 of 10", x.rest(2, 1, 99, 1, 99, 1), 101);
        c.due("32 in 10 of 10", x.rest(3, 99, 99, 99, 99, 1), 1000);
        c.dueNoPerson("32 person ahead of all", () -> x.rest(4, 0, 0, 0, 0, 9));
        int[][] wrong = {{0, 1, 1, 1}, {100, 1, 1, 1}, {1, 0, 1, 1}, {1, 100, 1, 1}, {1, 1, 0, 1}, {1, 1, 100, 1},
            {1, 1, 1, 0}, {1, 1, 1, 100}};
        for (int[] w : wrong) {
            for (int what = 0; what < 2; what++) {
                int k = what;
                c.dueIllegalArgument("32 stakes", () -> x.rest(0, w[0], w[1], w[2], w[3], k));
            }
        }
        c.dueIllegalArgument("32 what", () -> x.rest(0, 1, 1, 1, 1, 2));
    }

    private static void once() {
        c.due("33 two", Check.in(FOUR).once(0), 2);
        c.due("33 a star", Check.in("asks 1;person 0 0;person 8 0;person 8 0;person 8 0;").once(0), 1);
        c.due("33 four", Check.in("asks 1;" + times(4, "person 0 0;person 8 0;")).once(0), 4);
        c.due("33 none", Check.in("asks 1;person 0 0;person 8 0;kin 0 1;").once(0), 0);
        // The first two who could would leave the others without: 0-1, 0-2, 1-3.
        c.due("33 not the first at hand", Check.in("asks 1;person 0 0;person 5 0;person 4 0;person 1 0;kin 2 3;").once(0), 2);
    }

    private static void calm() {
        TwoHandles x = Check.in(FOUR);
        c.due("34 how many", x.calm(0, 0), 2);
        c.due("34 the bits", x.calm(0, 1), 9);
        TwoHandles y = Check.in("asks 1;person 8 0;person 0 0;person 0 0;person 7 0;person 5 0;");
        c.due("34 three of five: bits", y.calm(0, 1), 9 + 16);
        c.due("34 three", y.calm(0, 0), 3);
        c.due("34 two and two: the least", Check.in("asks 1;person 8 0;person 0 0;person 0 0;person 7 0;").calm(0, 1), 6);
        c.due("34 nobody", Check.in("asks 1;").calm(0, 0), 0);
        c.due("34 all", Check.in("asks 1;person 0 0;person 8 0;kin 0 1;").calm(0, 1), 3);
        c.dueIllegalArgument("34 what", () -> x.calm(0, 2));
    }

    private static void family() {
        TwoHandles x = Check.in("asks 1;" + times(7, "person 0 0;") + "kin 6 0;kin 5 6;kin 5 2;kin 1 3;");
        c.due("35 families", x.family(NONE), 3);
        int[] want = {4, 2, 4, 2, 1, 4, 4};
        for (int p = 0; p < want.length; p++) {
            c.due("35 family of " + p, x.family(p), want[p]);
        }
        c.dueIllegalArgument("35 no such person", () -> x.family(7));
        c.dueIllegalArgument("35 -2", () -> x.family(-2));
        c.due("35 nobody", Check.in("asks 1;").family(NONE), 0);
    }

    private static void starved() {
        TwoHandles x = Check.in("asks 2;person 00 0;person 08 0;door 5 1 9;door 6 1 2 0;slate 11;");
        c.due("36 the first day that nothing is done", x.starved(0), 1);
        x.next();
        c.due("36 from now on", x.starved(0), 2);
        x.work(0, 0, 1);
        c.due("36 now", x.starved(0), 1);
        x.next();
        x.next();
        c.due("36 what is too late does not wait", x.starved(0), NONE);
        c.due("36 all open", Check.in("asks 1;person 0 0;person 8 0;door 5 1 9;").starved(3), NONE);
        c.due("36 to the last day", Check.in("asks 1;door 5 1 29;").starved(1), 0);
        c.dueIllegalArgument("36 rule 4", () -> x.starved(4));
        c.dueIllegalArgument("36 rule -1", () -> x.starved(-1));
    }

    private static void slack() {
        TwoHandles x = Check.in("asks 2;person 03 0;person 60 0;door 5 1 9;gap 2;slate 1;");
        c.due("37 the slate's", x.slack(NONE), 3);
        c.due("37 told", x.slack(0), 6);
        c.due("37 worth nothing", Check.in("asks 1;person 0 0;person 3 0;door 5 1 9;").slack(0), 0);
        c.due("37 no further than 8", Check.in("asks 1;person 0 0;person 8 0;door 5 1 9;gap 1;").slack(0), 8);
        c.due("37 just so", Check.in(FOUR).slack(NONE), 4);
        c.dueIllegalArgument("37 question", () -> x.slack(2));
        c.dueIllegalArgument("37 question -2", () -> x.slack(-2));
    }

    private static void firm() {
        TwoHandles x = Check.in("asks 1;person 0 2;person 5 0;door 5 1 9;door 6 1 9;");
        c.due("38 worth more", x.firm(0, 0, 1), 5);
        c.due("38 he is so already", x.firm(1, 0, 1), 0);
        c.due("38 nothing stays", x.person(0, 0), 2);
        c.due("38 nor in the run", x.run(0, 1, 0), 6);
        c.dueNoPerson("38 person ahead of rule", () -> x.firm(2, 9, 0));
        c.dueIllegalArgument("38 rule", () -> x.firm(0, 4, 1));
        c.dueIllegalArgument("38 days", () -> x.firm(0, 0, 31));
        c.dueIllegalArgument("38 days 0", () -> x.firm(0, 0, 0));
        // If he is stiff, he works first by FIRM, and then all are too near; else there are three WORKS.
        TwoHandles worse = Check.in("asks 1;person 6 4;person 4 2;person 0 3;person 6 3;door 7 1 0;door 7 1 0;door 7 1 0;");
        c.due("38 three works", worse.run(2, 1, 0), 21);
        c.due("38 worth less", worse.firm(0, 2, 1), -14);
    }

    private static void twoDays() {
        TwoHandles x = Check.in(FOUR);
        c.due("39 worth", x.twoDays(0), 30);
        c.due("39 now", x.twoDays(1), 1);
        c.due("39 the next day", x.twoDays(2), 101);
        c.due("39 nothing stays", x.count(0) + x.count(1), 0);
        TwoHandles one = Check.in("asks 2;person 00 0;person 08 0;door 5 1 9;slate 01;");
        c.due("39 the next day alone", one.twoDays(2), 1);
        c.due("39 nothing now", one.twoDays(1), NONE);
        one.next();
        c.due("39 now alone", one.twoDays(1), 1);
        c.due("39 nothing on the next day", one.twoDays(2), NONE);
        TwoHandles same = Check.in("asks 1;person 0 0;person 8 0;door 5 1 9;");
        c.due("39 now ahead of the next day", same.twoDays(1), 1);
        TwoHandles three = Check.in("asks 1;person 0 0;person 8 0;door 5 60 9;door 6 60 9;door 7 60 9;day 60;");
        c.due("39 minutes anew", three.twoDays(0), 13);
        c.due("39 the first of alike rows", three.twoDays(1), 101);
        c.due("39 and the second", three.twoDays(2), 201);
        TwoHandles last = Check.in("asks 1;person 0 0;person 8 0;door 5 1 29;door 6 1 29;");
        for (int day = 0; day < 28; day++) {
            last.next();
        }
        c.due("39 the last day is the next", last.twoDays(0), 11);
        last.next();
        c.due("39 there is no next day", last.twoDays(0), 6);
        c.due("39 the last day", last.twoDays(1), 101);
        c.due("39 none behind it", last.twoDays(2), NONE);
        c.dueIllegalArgument("39 what 3", () -> x.twoDays(3));
        c.dueIllegalArgument("39 what -1", () -> x.twoDays(-1));
        c.due("39 none", Check.in("asks 1;").twoDays(0), 0);
    }

    private static void images() {
        TwoHandles x = Check.in(FOUR);
        c.due("40 image", x.image(), 1);
        x.work(1, 0, 1);
        x.row(3, 0, 0, 1);
        c.due("40 a second one", x.image(), 2);
        x.next();
        x.talk(2, 1, 0);
        x.clear();
        x.row(4, 1, 1, 2);
        x.row(4, 1, 1, 2);
        c.due("40 a third one", x.image(), 3);
        c.due("40 there are 3", x.image(), -1);
        x.next();
        Check.feed(x, "asks 9;");
        c.due("41 restore", x.restore(), 2);
        c.due("41 the tape is as it was", x.count(4), 20);
        c.due("41 now", x.count(0), 1);
        c.due("41 rows", x.count(2), 2);
        c.due("41 the latest first", x.restore(), 1);
        c.due("41 now", x.count(0), 0);
        c.due("41 rows", x.count(2), 1);
        c.due("41 the very row", x.judge(0), NONE);
        c.due("41 minutes", x.person(0, 1), 20);
        c.due("41 thoughts", x.thinks(2, 0), 4);
        c.due("41 open", x.door(1, 4), 1);
        c.due("41 the first", x.restore(), 0);
        c.due("41 as it began", x.count(1) + x.count(2), 0);
        c.due("41 minutes of the first", x.person(0, 1), 120);
        c.due("41 there is none", x.restore(), -1);
        c.due("41 the fault is as it was", x.fault(), NONE);
        c.due("40 images behind a town", x.image(), 1);
        x.town(7);
        c.due("41 a fault keeps them", x.fault(), 5);
        c.due("41 and is kept", x.restore() + x.fault(), 5);
        x.image();
        Check.tell(x, "asks 1;");
        c.due("41 a town takes them", x.restore(), -1);
    }

    private static void count() {
        TwoHandles x = Check.in(FOUR);
        x.work(1, 0, 1);
        x.next();
        x.next();
        x.row(0, 0, 0, 1);
        x.row(0, 0, 0, 1);
        x.row(0, 0, 0, 1);
        for (int i = 0; i < 3; i++) {
            x.image();
        }
        x.feed(0, 0, 0, 0, 0);
        int[] want = {2, 1, 3, 3, 20};
        for (int what = 0; what < want.length; what++) {
            c.due("42 count " + what, x.count(what), want[what]);
        }
        c.due("42 another", x.count(5), NONE);
        c.due("42 another", x.count(-1), NONE);
        c.due("42 another", x.count(Integer.MIN_VALUE), NONE);
    }

    private static void wrongQuestions() {
        TwoHandles x = Check.in(FOUR);
        int[] wrong = {2, 4, -2, Integer.MAX_VALUE, Integer.MIN_VALUE};
        IntUnaryOperator[] alsoNone = {q -> x.today(q, 0), q -> x.pair(q, 0), x::bound, q -> x.need(q, 0),
            q -> x.stranger(q, 0, 0), x::slack};
        IntUnaryOperator[] never = {q -> x.thinks(0, q), q -> x.talk(0, 1, q), x::night, q -> x.few(3, q, 0),
            q -> x.pairs(q, 0), q -> x.edge(q, 0), x::once, q -> x.calm(q, 0)};
        for (int i = 0; i < alsoNone.length; i++) {
            IntUnaryOperator call = alsoNone[i];
            for (int q : wrong) {
                c.dueIllegalArgument("question " + q + " of " + i, () -> call.applyAsInt(q));
            }
            c.holds("none is the slate's of " + i, call.applyAsInt(NONE) == call.applyAsInt(0));
        }
        for (int i = 0; i < never.length; i++) {
            IntUnaryOperator call = never[i];
            for (int q : wrong) {
                c.dueIllegalArgument("question " + q + " of " + i, () -> call.applyAsInt(q));
            }
            c.dueIllegalArgument("question NONE of " + i, () -> call.applyAsInt(NONE));
        }
    }

    private static void wrongDoorsAndPersons() {
        TwoHandles x = Check.in(FOUR);
        int[] ends = {-1, 10, Integer.MAX_VALUE, Integer.MIN_VALUE};
        for (int k : ends) {
            c.dueNoDoor("door", () -> x.door(k, 0));
            c.dueNoDoor("work", () -> x.work(k, 0, 1));
            c.dueNoDoor("may", () -> x.may(k, 0, 1));
            c.dueNoDoor("row", () -> x.row(0, k, 0, 1));
            c.dueNoDoor("pair", () -> x.pair(NONE, k));
            c.dueNoPerson("thinks", () -> x.thinks(k, 0));
            c.dueNoPerson("person", () -> x.person(k, 0));
            c.dueNoPerson("work", () -> x.work(0, k, 1));
            c.dueNoPerson("may", () -> x.may(0, 1, k));
            c.dueNoPerson("talk", () -> x.talk(k, k, 0));
            c.dueNoPerson("row", () -> x.row(0, 0, k, 1));
            c.dueNoPerson("rest", () -> x.rest(k, 1, 1, 1, 1, 0));
            c.dueNoPerson("firm", () -> x.firm(k, 0, 1));
        }
    }

    private static void withoutTown() {
        TwoHandles x = new TwoHandles();
        c.dueNoPerson("6 no town", () -> x.thinks(0, 0));
        c.dueNoDoor("8 no town", () -> x.door(0, 0));
        c.due("9 no town", x.slate(29), 0);
        c.due("14 no town", x.earned(0) + x.earned(1), 0);
        c.due("16 no town", x.clear(), 0);
        c.due("17 no town", x.judge(0), NONE);
        c.due("18 no town", x.today(NONE, 0) + x.today(NONE, 1), 0);
        c.dueIllegalArgument("18 no town, question 0", () -> x.today(0, 0));
        c.dueNoDoor("19 no town", () -> x.pair(NONE, 0));
        c.due("20 no town", x.bound(NONE), 0);
        c.due("21 no town", x.need(NONE, 0) + x.need(NONE, 1), 0);
        c.dueIllegalArgument("24 no town", () -> x.night(0));
        c.due("25 no town", x.best(0), 0);
        c.due("25 no town", x.best(2), NONE);
        for (int what = 0; what < 4; what++) {
            c.due("26 no town", x.run(3, 30, what), what == 3 ? NONE : 0);
            c.due("27 no town", x.lot(3, 30, what, 9), what == 3 ? NONE : 0);
        }
        c.due("28 no town", x.rule(30), 0);
        c.dueIllegalArgument("29 no town", () -> x.few(3, 0, 0));
        c.due("35 no town", x.family(NONE), 0);
        c.dueIllegalArgument("35 no town, person 0", () -> x.family(0));
        c.due("36 no town", x.starved(0), NONE);
        c.due("37 no town", x.slack(NONE), 0);
        c.dueNoPerson("38 no town", () -> x.firm(0, 0, 1));
        c.due("39 no town", x.twoDays(0), 0);
        c.due("39 no town", x.twoDays(1), NONE);
        c.due("40 no town", x.image(), 1);
        c.due("41 no town", x.restore(), 0);
    }
}
