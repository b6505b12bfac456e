/** ==== 2 and ==== 3 of the document's terms, sentence by sentence: WORKS, ROWS, TODAY, TALKS, RULES, RUNS. */
public final class TermSentencesTest {
    private static final int NONE = TwoHandles.NONE;
    private static final Sentences s = new Sentences();

    private TermSentencesTest() {
    }

    public static void main(String[] args) {
        days();
        errs();
        errsInOrder();
        comesNearer();
        rows();
        judged();
        earned();
        today();
        pairsOfToday();
        bound();
        need();
        choose();
        stranger();
        talks();
        bestTalk();
        bestRow();
        rules();
        alikeWorks();
        runs();
        lots();
        s.end("TermSentencesTest");
    }

    private static TwoHandles in(String text) {
        return Check.in(text);
    }

    private static TwoHandles onDay(String text, int day) {
        return Sentences.onDay(text, day);
    }

    private static String times(int n, String text) {
        return Sentences.times(n, text);
    }

    private static void days() {
        s.of("Terms 2", "DAYS 0 to 29; NOW is one (0 at first)", () -> {
            TwoHandles x = in("asks 1;door 5 1 29;");
            s.due("at first", x.count(0), 0);
            for (int day = 1; day <= 29; day++) {
                s.due("the next", x.next(), day);
                s.due("now", x.count(0), day);
            }
            s.due("none behind 29", x.next(), -1);
            s.due("still 29", x.count(0), 29);
        });
        s.of("Terms 2", "Each PERSON has MINUTES of a day, anew each DAY", () -> {
            TwoHandles x = in("asks 1;person 0 0;person 8 0;person 4 0;door 5 60 9;day 61;");
            x.work(0, 0, 1);
            int[] left = {1, 1, 61};
            for (int p = 0; p < 3; p++) {
                s.due("left of " + p, x.person(p, 1), left[p]);
            }
            x.next();
            for (int p = 0; p < 3; p++) {
                s.due("anew of " + p, x.person(p, 1), 61);
            }
        });
    }

    private static void errs() {
        s.of("Terms 2", "1 the DOOR is open", () -> {
            TwoHandles x = in("asks 1;person 0 0;person 8 0;person 4 0;door 5 1 9;door 6 1 9;");
            s.due("not yet", x.may(0, 0, 1), 0);
            x.work(0, 0, 1);
            s.due("open", x.may(0, 0, 1), 1);
            s.due("for others, too", x.may(0, 0, 2), 1);
            s.due("another door", x.may(1, 0, 1), 0);
            x.next();
            s.due("on another day, too", x.may(0, 0, 1), 1);
        });
        s.of("Terms 2", "2 NOW is behind its DAY", () -> {
            for (int until : new int[] {0, 1, 28}) {
                TwoHandles x = onDay("asks 1;person 0 0;person 8 0;door 5 1 " + until + ";", until);
                s.due("on day " + until, x.may(0, 0, 1), 0);
                x.next();
                s.due("behind day " + until, x.may(0, 0, 1), 2);
            }
            TwoHandles last = onDay("asks 1;person 0 0;person 8 0;door 5 1 29;door 6 1 28;", 29);
            s.due("by the last day", last.may(0, 0, 1), 0);
            s.due("by the one ahead of it", last.may(1, 0, 1), 2);
        });
        s.of("Terms 2", "3 they are one, or kin", () -> {
            TwoHandles x = in("asks 1;person 0 0;person 8 0;person 0 0;kin 0 1;kin 1 2;person 8 0;door 5 1 9;");
            for (int p = 0; p < 4; p++) {
                s.due("one", x.may(0, p, p), 3);
            }
            s.due("kin", x.may(0, 0, 1), 3);
            s.due("kin the other way", x.may(0, 1, 0), 3);
            s.due("kin of kin are alike here", x.may(0, 0, 2), 5);
            s.due("kin of kin are not kin", in("asks 1;person 0 0;person 8 0;person 4 0;kin 0 1;kin 1 2;door 5 1 9;").may(0, 0, 2), 0);
            s.due("no kin", x.may(0, 0, 3), 0);
        });
        s.of("Terms 2", "4 one has fewer MINUTES left than it takes", () -> {
            for (int day : new int[] {30, 31, 240}) {
                String town = "asks 1;person 0 0;person 8 0;person 4 0;day " + day + ";";
                s.due("one less", in(town + "door 5 " + (day - 1) + " 9;").may(0, 0, 1), 0);
                s.due("just so many", in(town + "door 5 " + day + " 9;").may(0, 0, 1), 0);
            }
            s.due("one more", in("asks 1;person 0 0;person 8 0;day 30;door 5 31 9;").may(0, 0, 1), 4);
            s.due("one more", in("asks 1;person 0 0;person 8 0;day 239;door 5 240 9;").may(0, 0, 1), 4);
            TwoHandles x = in("asks 1;person 0 0;person 8 0;person 8 0;door 5 1 9;door 6 30 9;door 7 29 9;day 30;");
            x.work(0, 0, 1);
            s.due("the first has fewer", x.may(1, 0, 2), 4);
            s.due("the other has fewer", x.may(1, 2, 0), 4);
            s.due("both", x.may(1, 0, 1), 4);
            s.due("just what is left", x.may(2, 0, 1), 0);
        });
        s.of("Terms 2", "5 what they think of it is less than GAP apart", () -> {
            for (int gap = 1; gap <= 8; gap++) {
                for (int apart = 0; apart <= 8; apart++) {
                    TwoHandles x = in("asks 1;person 0 0;person " + apart + " 0;gap " + gap + ";door 5 1 9;");
                    s.due("apart " + apart + ", gap " + gap, x.may(0, 0, 1), apart < gap ? 5 : 0);
                    s.due("the other way", x.may(0, 1, 0), apart < gap ? 5 : 0);
                }
            }
            TwoHandles y = in("asks 2;person 08 0;person 00 0;door 5 1 9 0;door 6 1 9 1;");
            s.due("of its question", y.may(0, 0, 1), 5);
            s.due("of the other one", y.may(1, 0, 1), 0);
        });
    }

    private static void errsInOrder() {
        s.of("Terms 2", "it ERRS, the first of these", () -> {
            // Door 0 for opening, 1 late by then, 2 that takes too long; 0 and 1 kin, 2 thinks otherwise, 3 as 0.
            TwoHandles x = in("asks 1;person 0 0;person 0 0;person 8 0;person 0 0;kin 0 1;"
                    + "door 5 30 0;door 6 240 0;door 7 240 9;door 8 30 9;day 30;");
            s.due("3 ahead of 4 and 5: one", x.may(2, 0, 0), 3);
            s.due("3 ahead of 4 and 5: kin", x.may(2, 0, 1), 3);
            s.due("3 ahead of 5: kin", x.may(3, 0, 1), 3);
            s.due("4 ahead of 5", x.may(2, 0, 3), 4);
            s.due("4 alone", x.may(2, 0, 2), 4);
            s.due("5 alone", x.may(3, 0, 3), 5);
            x.work(0, 0, 2);
            s.due("1 ahead of 3", x.may(0, 0, 0), 1);
            s.due("1 ahead of 4", x.may(0, 2, 3), 1);
            s.due("1 ahead of 5", x.may(0, 1, 3), 1);
            x.next();
            s.due("1 ahead of 2", x.may(0, 0, 2), 1);
            s.due("2 ahead of 3: one", x.may(1, 0, 0), 2);
            s.due("2 ahead of 3: kin", x.may(1, 1, 0), 2);
            s.due("2 ahead of 4", x.may(1, 0, 2), 2);
            s.due("2 ahead of 5", x.may(1, 0, 3), 2);
            s.due("work says the same", x.work(1, 0, 3), -2);
        });
    }

    private static void comesNearer() {
        s.of("Terms 2", "Else the DOOR is open, both have as many MINUTES less, and they come nearer", () -> {
            TwoHandles x = in("asks 2;person 01 1;person 86 1;person 44 4;door 5 17 9;door 6 17 9;day 50;");
            s.due("behind it", x.work(0, 1, 0), 6);
            s.due("open", x.door(0, 4), 1);
            s.due("no other door", x.door(1, 4), 0);
            s.due("minutes of the one", x.person(0, 1), 33);
            s.due("minutes of the other", x.person(1, 1), 33);
            s.due("minutes of the third", x.person(2, 1), 50);
            s.due("the one", x.thinks(0, 0), 1);
            s.due("the other", x.thinks(1, 0), 7);
            s.due("the third", x.thinks(2, 0), 4);
            s.due("another question", x.thinks(0, 1), 1);
            s.due("another question", x.thinks(1, 1), 6);
        });
        s.of("Terms 2", "if a and b together are D or less, each goes so many steps towards the other", () -> {
            nearer(true);
        });
        s.of("Terms 2", "else both think what the lesser thought, and D a by (a and b) (cut)", () -> {
            nearer(false);
        });
        s.of("Terms 2", "One works as often as his MINUTES let", () -> {
            TwoHandles x = in("asks 1;person 0 0;person 8 0;" + times(4, "door 5 30 9;") + "day 91;");
            s.due("once", x.work(0, 0, 1), 8);
            s.due("twice", x.work(1, 0, 1), 8);
            s.due("three times", x.work(2, 0, 1), 8);
            s.due("no more", x.work(3, 0, 1), -4);
            s.due("one minute is left", x.person(0, 1), 1);
            TwoHandles y = in("asks 1;person 0 0;person 8 0;" + times(10, "door 5 3 9;") + "day 30;");
            for (int d = 0; d < 10; d++) {
                s.due("ten times", y.work(d, d % 2, 1 - d % 2), 8);
            }
            s.due("nothing is left", y.person(1, 1), 0);
        });
    }

    /** All LED of two who are 1 to 8 apart, whichever of them is told first. */
    private static void nearer(boolean stepByStep) {
        for (int apart = 1; apart <= 8; apart++) {
            for (int a = 0; a <= 4; a++) {
                for (int b = 0; b <= 4; b++) {
                    if (a + b <= apart == stepByStep) {
                        nearer(8 - apart, apart, a, b);
                    }
                }
            }
        }
    }

    private static void nearer(int low, int apart, int a, int b) {
        int lesser = a + b <= apart ? low + a : low + apart * a / (a + b);
        int greater = a + b <= apart ? low + apart - b : lesser;
        String at = apart + " apart, led " + a + " and " + b;
        for (int first = 0; first < 2; first++) {
            String one = "person " + low + " " + a + ";";
            String other = "person " + (low + apart) + " " + b + ";";
            TwoHandles x = in("asks 1;gap 1;" + (first == 0 ? one + other : other + one) + "door 5 1 9;");
            s.due(at + ": apart", x.work(0, 0, 1), greater - lesser);
            s.due(at + ": the lesser", x.thinks(first, 0), lesser);
            s.due(at + ": the greater", x.thinks(1 - first, 0), greater);
        }
    }

    private static void rows() {
        s.of("Terms 2", "ROWS, 30 at most: a DAY, two PERSONS, a DOOR", () -> {
            TwoHandles x = in("asks 1;person 0 0;person 8 0;door 5 1 29;");
            for (int i = 1; i <= 29; i++) {
                s.due("row", x.row(0, 0, 0, 0), i);
            }
            s.due("the thirtieth", x.row(29, 0, 1, 1), 30);
            s.due("no more", x.row(0, 0, 0, 1), -1);
            s.due("none came", x.judge(1), 0);
            s.due("there are 30", x.count(2), 30);
        });
    }

    private static void row4(TwoHandles x, int... rows) {
        x.clear();
        for (int i = 0; i + 3 < rows.length; i += 4) {
            x.row(rows[i], rows[i + 1], rows[i + 2], rows[i + 3]);
        }
    }

    private static void judgedIs(String at, TwoHandles x, int wrong, int worth, int... rows) {
        row4(x, rows);
        s.due(at + ": judged", x.judge(0), wrong);
        s.due(at + ": earned", x.judge(1), worth);
    }

    private static void judged() {
        String town = "asks 2;person 00 0;person 88 0;person 08 0;kin 0 2;door 1 30 9;door 2 30 9;door 4 30 3;door 8 31 9;"
                + "door 16 30 9 1;day 30;slate 0001;";
        s.of("Terms 2", "the first row that ERRS: 10 times its number and by what", () -> {
            judgedIs("number 0", in(town), 3, 0, 0, 0, 0, 0);
            judgedIs("number 1", in(town), 13, 1, 0, 0, 0, 1, 0, 1, 1, 1);
            judgedIs("number 2", in(town), 21, 3, 0, 0, 0, 1, 1, 1, 0, 1, 2, 1, 0, 1);
            judgedIs("by 2", in(town), 2, 0, 4, 2, 0, 1);
            judgedIs("by 3", in(town), 3, 0, 0, 0, 2, 0);
            judgedIs("by 4", in(town), 4, 0, 0, 3, 0, 1);
            judgedIs("by 5", in(town), 5, 0, 3, 0, 1, 2);
            judgedIs("the first of two", in(town), 14, 1, 0, 0, 0, 1, 0, 1, 0, 1, 0, 0, 0, 0);
            TwoHandles ten = in("asks 1;person 0 0;person 8 0;" + times(10, "door 9 1 9;"));
            for (int d = 0; d < 10; d++) {
                ten.row(d, d, 0, 1);
            }
            s.due("ten that do not", ten.judge(0), NONE);
            ten.row(9, 9, 0, 1);
            s.due("number 10", ten.judge(0), 101);
            TwoHandles eight = in("asks 1;" + times(4, "person 0 0;person 8 0;") + times(10, "door 9 1 29;"));
            judgedIs("the last of all", eight, NONE, 9, 29, 9, 7, 6);
            judgedIs("the last one, and he himself", eight, 3, 0, 29, 9, 7, 7);
        });
        s.of("Terms 2", "6, ahead of these: its DAY is ahead of that to which one has come", () -> {
            judgedIs("ahead of 1", in(town), 16, 1, 1, 0, 0, 1, 0, 0, 0, 1);
            judgedIs("ahead of 2 and 3", in(town), 16, 1, 5, 0, 0, 1, 4, 2, 0, 0);
            judgedIs("ahead of 4", in(town), 16, 1, 1, 0, 0, 1, 0, 3, 0, 1);
            judgedIs("the same day is not ahead", in(town), 14, 1, 1, 0, 0, 1, 1, 1, 0, 1);
            judgedIs("one day ahead", in(town), 16, 1, 2, 0, 0, 1, 1, 1, 0, 1);
            judgedIs("one day behind", in(town), NONE, 3, 1, 0, 0, 1, 2, 1, 0, 1);
            judgedIs("ahead of now", onDay(town, 2), 6, 0, 1, 0, 0, 1);
            judgedIs("on now", onDay(town, 2), NONE, 1, 2, 0, 0, 1);
            judgedIs("on the last day", onDay(town, 29), 2, 0, 29, 0, 0, 1);
        });
        s.of("Terms 2", "a row that does not ERR by it is where one comes to, with MINUTES anew on another DAY", () -> {
            judgedIs("no minutes anew on the same day", in(town), 14, 1, 0, 0, 0, 1, 0, 1, 0, 1);
            judgedIs("anew on another day", in(town), NONE, 7, 0, 0, 0, 1, 1, 1, 0, 1, 3, 2, 0, 1);
            judgedIs("the slate of that day", in(town), 5, 0, 3, 0, 1, 2);
            judgedIs("the slate of another one", in(town), NONE, 1, 2, 0, 1, 2);
            judgedIs("one that errs by 3 is come to", in(town), 3, 0, 1, 0, 0, 0, 0, 1, 0, 1);
            judgedIs("one that errs by 6 is not", in(town), 16, 3, 1, 0, 0, 1, 0, 4, 0, 1, 2, 1, 0, 1);
            TwoHandles tired = in(town);
            tired.work(0, 0, 1);
            judgedIs("from now: no minutes left", tired, 4, 0, 0, 1, 0, 1);
            judgedIs("from now: anew tomorrow", tired, NONE, 2, 1, 1, 0, 1);
            judgedIs("from now: it is open", tired, 1, 0, 1, 0, 0, 1);
        });
        s.of("Terms 2", "JUDGED as if they went on from NOW", () -> {
            s.keeps("nothing happens", () -> {
                TwoHandles x = in(town);
                x.work(0, 0, 1);
                row4(x, 1, 1, 0, 1, 2, 2, 0, 1);
                return x;
            }, x -> x.judge(0), NONE);
        });
    }

    private static void earned() {
        String town = "asks 1;person 0 4;person 8 4;person 8 0;door 1 30 9;door 2 30 9;door 4 30 9;day 60;";
        s.of("Terms 2", "EARNED: WORTH of all DOORS that these rows open", () -> {
            judgedIs("no rows", in(town), NONE, 0);
            judgedIs("one", in(town), NONE, 4, 0, 2, 0, 1);
            judgedIs("two", in(town), NONE, 5, 0, 2, 0, 1, 0, 0, 0, 2);
            TwoHandles x = in(town);
            x.work(2, 0, 1);
            judgedIs("not what is open already", x, NONE, 1, 0, 0, 0, 2);
            judgedIs("nor if a row names it", x, 1, 0, 0, 2, 0, 2);
        });
        s.of("Terms 2", "those behind one that ERRS count, too, as if that one were not", () -> {
            judgedIs("behind one by 3", in(town), 3, 4, 0, 2, 1, 1, 0, 2, 0, 1);
            String stiff = "asks 1;person 0 0;person 8 0;person 8 0;door 1 30 9;door 2 30 9;day 60;";
            judgedIs("it takes no minutes", in(stiff), 5, 3, 0, 0, 1, 2, 0, 0, 0, 1, 0, 1, 0, 1);
            judgedIs("it brings nobody nearer", in(town), 11, 3, 0, 0, 0, 2, 0, 0, 0, 1, 0, 1, 1, 0);
            judgedIs("all of them err", in(town), 3, 0, 0, 0, 0, 0, 0, 1, 1, 1, 0, 2, 2, 2);
        });
    }

    private static void todayIs(String at, TwoHandles x, int worth, int doors) {
        s.due(at + ": worth", x.today(NONE, 0), worth);
        s.due(at + ": doors", x.today(NONE, 1), doors);
    }

    private static void today() {
        s.of("Terms 3", "sets of DOORS (not open, not too late)", () -> {
            TwoHandles x = in("asks 1;person 0 0;person 8 0;door 9 1 0;door 5 1 1;door 3 1 2;");
            todayIs("all three", x, 9, 1);
            x.work(0, 0, 1);
            todayIs("one is open", x, 5, 2);
            x.next();
            todayIs("on its last day", x, 5, 2);
            x.next();
            todayIs("too late", x, 3, 4);
            x.next();
            todayIs("nothing left", x, 0, 0);
            todayIs("no doors", in("asks 1;person 0 0;person 8 0;"), 0, 0);
            todayIs("nobody", in("asks 1;door 5 1 9;"), 0, 0);
            todayIs("one alone", in("asks 1;person 0 0;door 5 1 9;"), 0, 0);
        });
        s.of("Terms 3", "each by two of its own (each PERSON at one DOOR at most)", () -> {
            String ten = "door 90 1 9;door 91 1 9;door 92 1 9;door 93 1 9;door 94 1 9;door 95 1 9;door 96 1 9;door 97 1 9;"
                    + "door 98 1 9;door 99 1 9;";
            int[] worth = {0, 0, 99, 99, 197, 197, 294, 294, 390};
            for (int n = 0; n <= 8; n++) {
                String people = times(n / 2, "person 0 0;person 8 0;") + times(n % 2, "person 4 0;");
                s.due(n + " persons", in("asks 1;" + people + ten).today(NONE, 0), worth[n]);
            }
            todayIs("four of ten", in("asks 1;" + times(4, "person 0 0;person 8 0;") + ten), 390, 960);
            todayIs("fewer doors than pairs", in("asks 1;" + times(4, "person 0 0;person 8 0;") + "door 7 1 9;"), 7, 1);
            todayIs("a star", in("asks 1;person 0 0;" + times(7, "person 8 0;") + ten), 99, 512);
        });
        s.of("Terms 3", "who do not ERR", () -> {
            todayIs("just the gap", in("asks 1;person 0 0;person 4 0;door 5 1 9;"), 5, 1);
            todayIs("one less", in("asks 1;person 0 0;person 3 0;door 5 1 9;"), 0, 0);
            todayIs("kin", in("asks 1;person 0 0;person 8 0;kin 0 1;door 5 1 9;"), 0, 0);
            todayIs("just the minutes", in("asks 1;person 0 0;person 8 0;door 5 30 9;day 30;"), 5, 1);
            todayIs("one more", in("asks 1;person 0 0;person 8 0;door 5 31 9;day 30;"), 0, 0);
            TwoHandles x = in("asks 1;person 0 0;person 8 0;door 5 1 9;door 6 30 9;door 4 29 9;day 30;");
            x.work(0, 0, 1);
            todayIs("what is left of them", x, 4, 4);
        });
        s.of("Terms 3", "the set of the greatest WORTH, of these the least (bits)", () -> {
            todayIs("two alike", in("asks 1;person 0 0;person 8 0;door 5 1 9;door 5 1 9;"), 5, 1);
            todayIs("the greater is behind", in("asks 1;person 0 0;person 8 0;door 5 1 9;door 6 1 9;door 6 1 9;"), 6, 2);
            String four = "asks 1;person 0 0;person 8 0;person 0 0;person 8 0;";
            todayIs("two of four", in(four + "door 3 1 9;door 3 1 9;door 5 1 9;door 1 1 9;"), 8, 5);
            todayIs("two of three alike", in(four + times(3, "door 3 1 9;")), 6, 3);
            // 0 and 1 disagree of 0 alone, 0 and 2 of 1 alone, 1 and 3 of 2 alone: one door, or the two others.
            String pairs = "asks 3;gap 5;person 004 0;person 840 0;person 484 0;person 448 0;";
            todayIs("one door is the lesser", in(pairs + "door 6 1 9 0;door 2 1 9 1;door 4 1 9 2;"), 6, 1);
            todayIs("two doors are the lesser", in(pairs + "door 2 1 9 1;door 4 1 9 2;door 6 1 9 0;"), 6, 3);
            todayIs("two are worth more", in(pairs + "door 6 1 9 0;door 3 1 9 1;door 4 1 9 2;"), 7, 6);
            todayIs("one is worth more", in(pairs + "door 2 1 9 1;door 4 1 9 2;door 7 1 9 0;"), 7, 4);
        });
        s.of("Terms 3", "TODAY about a QUESTION (the SLATE's, or told)", () -> {
            TwoHandles x = in("asks 3;person 000 0;person 080 0;door 5 1 9;door 7 1 9 2;slate 01;");
            s.due("the slate's", x.today(NONE, 0), 0);
            s.due("told 0", x.today(0, 0), 0);
            s.due("told 1", x.today(1, 0), 5);
            s.due("a door with its own keeps it", x.today(1, 1), 1);
            s.due("told 2", x.today(2, 0), 0);
            x.next();
            s.due("the slate's of day 1", x.today(NONE, 0), 5);
        });
    }

    private static void pairsAre(String at, TwoHandles x, int... pairs) {
        for (int d = 0; d < pairs.length; d++) {
            s.due(at + ": door " + d, x.pair(NONE, d), pairs[d]);
        }
    }

    private static void pairsOfToday() {
        s.of("Terms 3", "the first pair (the lesser PERSON, then the other one)", () -> {
            pairsAre("all could", in("asks 1;gap 1;person 0 0;person 2 0;person 4 0;person 6 0;door 5 1 9;"), 1);
            pairsAre("the lesser first", in("asks 1;person 0 0;person 1 0;person 1 0;person 5 0;door 5 1 9;"), 3);
            pairsAre("the other then", in("asks 1;person 0 0;person 3 0;person 4 0;person 8 0;door 5 1 9;"), 2);
            pairsAre("the last two", in("asks 1;" + times(7, "person 4 0;") + "person 8 0;gap 4;kin 0 7;kin 1 7;kin 2 7;kin 3 7;"
                    + "kin 4 7;kin 5 7;door 5 1 9;"), 67);
        });
        s.of("Terms 3", "DOOR by DOOR, rising, the first pair (the lesser PERSON, then the other one) by which all the others can still be had", () -> {
            pairsAre("four", in("asks 1;" + times(4, "person 0 0;person 8 0;") + times(4, "door 1 1 9;")), 1, 23, 45, 67);
            pairsAre("each could with each", in("asks 1;gap 1;person 0 0;person 1 0;person 2 0;person 3 0;person 4 0;person 5 0;"
                    + "person 6 0;person 7 0;" + times(5, "door 1 1 9;")), 1, 23, 45, 67, NONE);
            // Of question 1 only 0 and 3 disagree, so 0 is not for the first door.
            pairsAre("0 is needed behind", in("asks 2;person 00 0;person 80 0;person 00 0;person 08 0;kin 1 3;kin 2 3;"
                    + "door 1 1 9 0;door 1 1 9 1;"), 12, 3);
            // The first door takes 0 and 1, and the second one has to take what is left.
            pairsAre("what is left", in("asks 2;person 00 0;person 80 0;person 00 0;person 08 0;kin 1 3;kin 0 3;"
                    + "door 1 1 9 0;door 1 1 9 1;"), 1, 23);
        });
    }

    private static void bound() {
        s.of("Terms 3", "the greatest WORTHS, as many as half the PERSONS (cut), together", () -> {
            String doors = "door 3 1 9;door 9 1 9;door 5 1 9;door 9 1 9;door 4 1 9;";
            int[] worth = {0, 9, 9, 18, 18, 23, 23, 27};
            for (int n = 1; n <= 8; n++) {
                s.due(n + " persons", in("asks 1;person 0 0;" + times(n - 1, "person 8 0;") + doors).bound(NONE), worth[n - 1]);
            }
            s.due("nobody", in("asks 1;" + doors).bound(NONE), 0);
            s.due("fewer doors than that", in("asks 1;person 8 0;" + times(7, "person 0 0;") + "door 3 1 9;door 2 1 9;").bound(NONE), 5);
            s.due("no doors", in("asks 1;person 0 0;person 8 0;").bound(NONE), 0);
        });
        s.of("Terms 3", "of DOORS that some two could open", () -> {
            String people = "asks 2;person 00 0;person 80 0;person 40 0;person 40 0;day 30;";
            s.due("the gap", in(people + "door 9 1 9;door 5 1 9 1;").bound(NONE), 9);
            s.due("the minutes", in(people + "door 9 30 9;door 5 31 9;").bound(NONE), 9);
            TwoHandles x = in(people + "door 9 1 0;door 5 1 1;door 4 1 2;");
            s.due("two of three", x.bound(NONE), 14);
            x.work(0, 0, 1);
            s.due("one is open", x.bound(NONE), 9);
            x.next();
            x.next();
            s.due("one is too late", x.bound(NONE), 4);
            s.due("about another question", x.bound(1), 0);
        });
    }

    private static void needIs(String at, TwoHandles x, int howFew, int bits) {
        s.due(at + ": how few", x.need(NONE, 0), howFew);
        s.due(at + ": bits", x.need(NONE, 1), bits);
    }

    private static void need() {
        s.of("Terms 3", "of sets of PERSONS those with which TODAY is worth as much: how few are the fewest", () -> {
            needIs("nothing to open", in("asks 1;person 0 0;person 8 0;"), 0, 0);
            needIs("nobody who could", in("asks 1;person 0 0;person 3 0;door 5 1 9;"), 0, 0);
            needIs("nobody at all", in("asks 1;door 5 1 9;"), 0, 0);
            needIs("two", in("asks 1;person 4 0;person 8 0;person 4 0;door 5 1 9;"), 2, 3);
            needIs("four", in("asks 1;person 0 0;person 8 0;person 0 0;person 8 0;person 4 0;door 5 1 9;door 5 1 9;"), 4, 15);
            needIs("all eight", in("asks 1;" + times(4, "person 0 0;person 8 0;") + times(10, "door 5 1 9;")), 8, 255);
            // Two of the doors take two, the greatest takes two as well, and no set of two is worth as much.
            needIs("worth as much", in("asks 1;person 0 0;person 8 0;person 0 0;person 8 0;door 9 1 9;door 1 1 9;"), 4, 15);
        });
        s.of("Terms 3", "of these the least (bits)", () -> {
            needIs("of four pairs", in("asks 1;person 0 0;person 0 0;person 8 0;person 8 0;door 5 1 9;"), 2, 5);
            needIs("not the first person", in("asks 1;gap 5;person 4 0;person 0 0;person 0 0;person 8 0;person 8 0;door 5 1 9;"), 2, 10);
            // 1 and 2 are 6, 0 and 3 are 9: the lesser bits, not the lesser first person.
            needIs("the bits, not the first person", in("asks 1;gap 4;person 0 0;person 8 0;person 3 0;person 4 0;kin 0 1;door 5 1 9;kin 1 3;"), 2, 6);
        });
    }

    private static void choose() {
        s.of("Terms 3", "CHOOSE: the QUESTION with which TODAY is worth most, of these the first", () -> {
            s.due("all alike", in("asks 4;person 0000 0;person 8888 0;door 5 1 9;").choose(), 0);
            s.due("all nothing", in("asks 4;person 0000 0;door 5 1 9;").choose(), 0);
            s.due("nobody", in("asks 4;").choose(), 0);
            s.due("the last", in("asks 4;person 0000 0;person 0008 0;door 5 1 9;").choose(), 3);
            s.due("the first of two", in("asks 4;person 0000 0;person 0808 0;door 5 1 9;").choose(), 1);
            s.due("not the slate's", in("asks 4;slate 3;person 0000 0;person 0808 0;door 5 1 9;").choose(), 1);
            s.due("one pair or two", in("asks 2;person 00 0;person 80 0;person 08 0;person 08 0;kin 0 1;kin 1 2;door 5 1 9;door 6 1 9;").choose(), 1);
        });
    }

    private static void stranger() {
        s.of("Terms 3", "digits (to the base 10, QUESTION 0 the lowest, each 0 to 8)", () -> {
            TwoHandles x = in("asks 4;person 4444 0;door 1 1 9 0;door 2 1 9 1;door 4 1 9 2;door 8 1 9 3;");
            s.due("of question 0", x.stranger(NONE, 4448, 0), 1);
            s.due("of question 1", x.stranger(NONE, 4484, 0), 2);
            s.due("of question 2", x.stranger(NONE, 4844, 0), 4);
            s.due("of question 3", x.stranger(NONE, 8444, 0), 8);
            s.due("zeros", x.stranger(NONE, 0, 0), 8);
            s.due("a zero ahead", x.stranger(NONE, 444, 0), 8);
            s.due("eights", x.stranger(NONE, 8888, 0), 8);
            for (int wrong : new int[] {9, 90, 900, 9000, 8889, 10000, 18888, -1, -8, Integer.MAX_VALUE, Integer.MIN_VALUE}) {
                s.noSuchArgument("digits " + wrong, () -> in("asks 4;person 4444 0;door 1 1 9 0;"), y -> y.stranger(NONE, wrong, 0));
            }
            s.due("one question", in("asks 1;person 0 0;door 5 1 9;").stranger(NONE, 8, 0), 5);
            s.noSuchArgument("two digits for one", () -> in("asks 1;person 0 0;door 5 1 9;"), y -> y.stranger(NONE, 18, 0));
            s.noSuchArgument("9 for one", () -> in("asks 1;person 0 0;door 5 1 9;"), y -> y.stranger(NONE, 9, 0));
        });
        s.of("Terms 3", "is kin to nobody, with MINUTES of a whole day", () -> {
            TwoHandles x = in("asks 1;person 0 0;person 8 0;person 8 0;kin 0 2;kin 1 2;door 5 30 9;door 7 30 9;day 30;");
            x.work(0, 0, 1);
            s.due("2 has nobody else", x.today(NONE, 0), 0);
            s.due("he has minutes", x.stranger(NONE, 0, 0), 7);
            s.due("he is no kin", in("asks 1;person 0 0;person 8 0;kin 0 1;door 5 30 9;day 30;").stranger(NONE, 4, 0), 5);
            s.due("no more than a day", in("asks 1;person 0 0;door 5 31 9;day 30;").stranger(NONE, 8, 0), 0);
            s.due("with eight others", in("asks 1;" + times(8, "person 0 0;") + "door 5 30 9;").stranger(NONE, 4, 0), 5);
            s.due("one of nine is left over", in("asks 1;" + times(4, "person 0 0;person 8 0;") + times(10, "door 5 1 9;")).stranger(NONE, 4, 0), 0);
        });
        s.of("Terms 3", "by how much TODAY is worth more with him", () -> {
            s.due("nothing more", in("asks 1;person 0 0;person 8 0;door 5 1 9;").stranger(NONE, 4, 0), 0);
            s.due("he alone", in("asks 1;door 5 1 9;").stranger(NONE, 4, 0), 0);
            s.due("the second door", in("asks 1;person 0 0;person 8 0;person 8 0;door 5 1 9;door 3 1 9;").stranger(NONE, 4, 0), 3);
            s.due("a better door", in("asks 2;person 00 0;person 80 0;door 5 1 9;door 9 1 9 1;").stranger(NONE, 80, 0), 4);
            s.due("just the gap", in("asks 1;person 0 0;door 5 1 9;gap 8;").stranger(NONE, 8, 0), 5);
            s.due("one less", in("asks 1;person 0 0;door 5 1 9;gap 8;").stranger(NONE, 7, 0), 0);
        });
    }

    private static void talks() {
        s.of("Terms 3", "he goes one step towards what that one thinks (about a QUESTION)", () -> {
            TwoHandles x = in("asks 2;person 08 0;person 80 4;person 11 2;");
            s.due("up from 0", x.talk(0, 1, 0), 1);
            s.due("to one mind", x.talk(0, 2, 0), 1);
            s.due("down from 8", x.talk(1, 0, 0), 7);
            s.due("down from 8 of question 1", x.talk(0, 1, 1), 7);
            s.due("to 0 and no further", x.talk(2, 1, 1), 0);
            s.due("to 0 and no further", x.talk(2, 1, 1), 0);
            s.due("the other stays", x.thinks(1, 1), 0);
            s.due("the other question stays", x.thinks(2, 0), 1);
            s.due("led no matter", x.talk(1, 0, 0), 6);
            s.due("up to 8 and no further", in("asks 1;person 8 0;person 8 0;").talk(0, 1, 0), 8);
        });
    }

    private static void bestTalk() {
        String three = "asks 1;person 3 1;person 0 1;person 8 0;kin 1 2;gap 6;";
        s.of("Terms 3", "TODAY of the next DAY (its MINUTES whole, its SLATE) is worth most, if more than without", () -> {
            s.due("more", in(three + "door 9 30 1;").night(0), 1);
            s.due("too late by then", in(three + "door 9 30 0;").night(0), NONE);
            s.due("on a later day", onDay(three + "door 9 30 5;", 4).night(0), 1);
            s.due("behind its day", onDay(three + "door 9 30 5;", 5).night(0), NONE);
            s.due("as much already", in("asks 1;person 2 1;person 0 1;person 8 0;kin 1 2;gap 6;door 9 30 1;").night(0), NONE);
            s.due("nothing to open", in(three).night(0), NONE);
            TwoHandles tired = in("asks 1;person 0 0;person 8 0;person 3 0;gap 6;kin 0 2;door 9 30 1;door 7 30 1;door 5 30 1;day 30;");
            tired.work(0, 0, 1);
            s.due("minutes are whole: as much without", tired.night(0), NONE);
            TwoHandles whole = in("asks 1;person 4 0;person 8 0;person 0 0;kin 1 2;gap 4;door 9 30 1;door 7 30 1;day 30;");
            whole.work(0, 0, 1);
            s.due("without a talk, too", whole.night(0), NONE);
            String slate = "asks 2;person 33 1;person 00 1;person 88 0;kin 1 2;gap 6;door 9 30 5;slate 01;";
            s.due("not about the slate of now", in(slate).night(0), NONE);
            s.due("about that of the next day", in(slate).night(1), 1);
            s.due("and the other way", onDay(slate, 1).night(0), 1);
            s.due("nobody", in("asks 1;door 9 30 5;").night(0), NONE);
            s.due("nobody to go down to", in("asks 1;person 3 0;person 8 0;gap 6;door 9 30 5;").night(0), NONE);
            s.due("nobody to go up to", in("asks 1;person 0 0;person 5 0;gap 6;door 9 30 5;").night(0), NONE);
        });
        s.of("Terms 3", "of these the first (who goes, then to whom)", () -> {
            s.due("to whom", in("asks 1;person 3 0;person 0 0;person 1 0;person 8 0;kin 1 3;kin 2 3;gap 6;door 9 30 1;").night(0), 1);
            s.due("to the first who is on that side", in("asks 1;person 3 0;person 5 0;person 1 0;person 0 0;person 8 0;kin 2 4;kin 3 4;gap 6;door 9 30 1;").night(0), 2);
            s.due("who goes", in("asks 1;person 8 0;person 3 0;person 3 0;person 0 0;kin 0 3;gap 6;door 9 30 1;").night(0), 13);
            // 1 goes to 5 and finds 4: 14; 0 goes and finds 2, who is needed for the other door: 9; without: 5.
            String most = "asks 2;gap 6;person 34 0;person 24 0;person 80 0;person 48 0;person 74 0;person 04 0;kin 1 2;kin 2 5;kin 4 5;"
                    + "door 9 1 9 0;door 5 1 9 1;";
            s.due("without", in(most).today(NONE, 0), 5);
            s.due("worth most, though 0 is more than without", in(most).night(0), 15);
            s.due("about the other question none", in(most).night(1), NONE);
        });
    }

    private static void bestIs(String at, TwoHandles x, int worth, int first, int second) {
        s.due(at + ": worth", x.best(0), worth);
        s.due(at + ": first", x.best(1), first);
        s.due(at + ": second", x.best(2), second);
    }

    private static void bestRow() {
        s.of("Terms 3", "BEST ROW: of no WORK, of one, of two now, one behind the other", () -> {
            bestIs("no doors", in("asks 1;person 0 0;person 8 0;"), 0, NONE, NONE);
            bestIs("none can", in("asks 1;person 0 0;person 3 0;door 5 1 9;"), 0, NONE, NONE);
            bestIs("one", in("asks 1;person 0 0;person 8 0;door 5 1 9;"), 5, 1, NONE);
            bestIs("two", in("asks 1;person 0 0;person 8 0;door 5 1 9;door 6 1 9;"), 11, 1, 101);
            bestIs("no more than two", in("asks 1;person 0 0;person 8 0;door 5 1 9;door 6 1 9;door 7 1 9;"), 13, 101, 201);
            bestIs("minutes for both", in("asks 1;person 0 0;person 8 0;door 5 15 9;door 6 15 9;day 30;"), 11, 1, 101);
            bestIs("a minute too few", in("asks 1;person 0 0;person 8 0;door 5 15 9;door 6 16 9;day 30;"), 6, 101, NONE);
            bestIs("too near behind the first", in("asks 1;person 0 1;person 4 0;door 5 1 9;door 6 1 9;"), 6, 101, NONE);
            bestIs("near enough behind the first", in("asks 1;person 0 1;person 5 0;door 5 1 9;door 6 1 9;"), 11, 1, 101);
            // Only behind 0 and 1 are 1 and 2 far enough apart: 1 has come from 8 to 4.
            bestIs("the first makes room for the second", in("asks 1;person 0 1;person 8 4;person 8 0;kin 0 2;door 5 1 9;door 6 1 9;"),
                    11, 1, 112);
            TwoHandles fewer = in("asks 1;person 0 0;person 8 0;door 5 1 9;door 6 1 9;");
            bestIs("two", fewer, 11, 1, 101);
            fewer.work(0, 0, 1);
            bestIs("one is left", fewer, 6, 101, NONE);
            fewer.work(1, 0, 1);
            bestIs("none is left", fewer, 0, NONE, NONE);
            TwoHandles late = onDay("asks 1;person 0 0;person 8 0;door 5 1 0;door 6 1 1;door 7 1 1;", 1);
            late.work(2, 0, 1);
            bestIs("not what is open or too late", late, 6, 101, NONE);
        });
        s.of("Terms 3", "the one of the greatest WORTH, of these the first (none, then one; by DOOR, lesser PERSON, other one)", () -> {
            bestIs("one ahead of two", in("asks 1;person 0 0;person 8 0;door 4 15 9;door 4 15 9;door 8 30 9;day 30;"), 8, 201, NONE);
            bestIs("two are worth more", in("asks 1;person 0 0;person 8 0;door 4 15 9;door 5 15 9;door 8 30 9;day 30;"), 9, 1, 101);
            bestIs("by door", in("asks 1;person 0 0;person 8 0;door 4 1 9;door 5 30 9;door 5 30 9;day 30;"), 5, 101, NONE);
            bestIs("by lesser person", in("asks 1;person 4 0;person 0 0;person 8 0;kin 0 1;door 4 1 9;"), 4, 2, NONE);
            bestIs("by other one", in("asks 1;person 0 0;person 3 0;person 8 0;person 8 0;door 4 1 9;"), 4, 2, NONE);
            // The first two come to one mind; a second WORK is left for 0 and 2 all the same.
            bestIs("the second by its own order", in("asks 1;person 0 4;person 8 4;person 8 0;kin 1 2;door 4 1 9;door 4 1 9;"), 8, 1, 102);
            // By 0 and 1 first, 2 and 3 are left, who are kin; by 0 and 2 first, 1 and 3 are.
            bestIs("a later first of more worth", in("asks 1;person 0 0;person 8 0;person 8 0;person 0 0;kin 2 3;door 4 30 9;door 4 30 9;day 30;"),
                    8, 2, 113);
        });
    }

    private static void firstWorkIs(String at, int rule, String town, int work) {
        s.due(at, in(town).run(rule, 1, 3), work);
    }

    private static void rules() {
        String far = "asks 1;gap 1;person 3 0;person 5 0;person 0 0;person 8 0;door 5 1 9;";
        s.of("Terms 3", "0 FAR: whose two are farthest apart", () -> {
            firstWorkIs("0 and 8", 0, far, 23);
            firstWorkIs("of its question", 0, "asks 2;person 00 0;person 56 0;door 9 1 9 0;door 5 1 9 1;", 101);
            firstWorkIs("ahead of worth", 0, "asks 2;person 00 0;person 65 0;door 5 1 9 0;door 9 1 9 1;", 1);
        });
        s.of("Terms 3", "1 JUST: least apart", () -> {
            firstWorkIs("3 and 5", 1, far, 1);
            firstWorkIs("gap or more", 1, "asks 1;gap 3;person 3 0;person 5 0;person 0 0;person 8 0;door 5 1 9;", 2);
            firstWorkIs("of its question", 1, "asks 2;person 00 0;person 56 0;door 5 1 9 0;door 9 1 9 1;", 1);
        });
        s.of("Terms 3", "2 FIRM: whose LED together are least", () -> {
            firstWorkIs("1 and 2", 2, "asks 1;person 0 3;person 8 2;person 0 1;person 8 4;door 5 1 9;", 12);
            firstWorkIs("0 together", 2, "asks 1;person 0 1;person 8 0;person 0 0;person 8 4;door 5 1 9;", 12);
            firstWorkIs("the most", 2, "asks 1;person 0 4;person 8 4;door 5 1 9;", 1);
            firstWorkIs("of those who do not err", 2, "asks 1;person 0 0;person 3 0;person 8 4;door 5 1 9;", 2);
            // 0 and 1 disagree of question 0, 0 and 2 of question 1.
            String people = "asks 2;person 00 0;person 80 1;person 08 2;kin 1 2;";
            firstWorkIs("minutes no matter", 2, people + "door 5 1 9 0;door 5 240 9 1;", 1);
            firstWorkIs("minutes no matter", 2, people + "door 5 240 9 0;door 5 1 9 1;", 1);
            firstWorkIs("nor the order of doors", 2, people + "door 5 240 9 1;door 5 1 9 0;", 101);
            firstWorkIs("nor the order of doors", 2, people + "door 5 1 9 1;door 5 240 9 0;", 101);
        });
        s.of("Terms 3", "3 WORTH: whose WORTH by MINUTES is greatest (fractions)", () -> {
            String two = "asks 1;person 0 0;person 8 0;";
            firstWorkIs("a third", 3, two + "door 33 100 9;door 1 3 9;door 50 151 9;", 101);
            firstWorkIs("99 by 240 and 98 by 239", 3, two + "door 98 239 9;door 99 240 9;", 101);
            firstWorkIs("99 by 240 and 98 by 237", 3, two + "door 98 237 9;door 99 240 9;", 1);
            firstWorkIs("the least and the greatest", 3, two + "door 1 240 9;door 99 1 9;", 101);
            firstWorkIs("below 1 both", 3, two + "door 1 240 9;door 1 239 9;", 101);
        });
        s.of("Terms 3", "RULES choose a WORK of all that do not ERR", () -> {
            for (int rule = 0; rule < 4; rule++) {
                firstWorkIs("not kin", rule, "asks 1;person 0 0;person 8 0;person 8 0;kin 0 1;door 5 1 9;", 2);
                firstWorkIs("not without minutes", rule, "asks 1;person 0 0;person 8 0;door 9 31 9;door 5 30 9;day 30;", 101);
                firstWorkIs("none", rule, "asks 1;person 0 0;person 3 0;door 5 1 9;", NONE);
                TwoHandles x = onDay("asks 1;person 0 0;person 8 0;door 9 1 0;door 8 1 1;door 7 1 1;", 1);
                x.work(1, 0, 1);
                s.due("not open, not too late", x.run(rule, 1, 3), 201);
            }
        });
    }

    private static void alikeWorks() {
        s.of("Terms 3", "of alike ones that of the greater WORTH, of these the first (as above)", () -> {
            String three = "asks 1;person 0 0;person 8 0;person 0 0;";
            for (int rule = 0; rule < 4; rule++) {
                firstWorkIs("the greater worth", rule, three + "door 2 60 9;door 4 120 9;door 3 90 9;", 101);
                firstWorkIs("by door", rule, three + "door 2 60 9;door 4 120 9;door 4 120 9;", 101);
                firstWorkIs("by lesser person", rule, "asks 1;person 4 0;person 0 0;person 8 0;person 0 0;kin 0 2;door 4 1 9;kin 0 1;kin 0 3;", 12);
                firstWorkIs("by other one", rule, "asks 1;person 0 0;person 8 0;person 8 0;door 4 1 9;", 1);
            }
            String led = "asks 1;person 0 1;person 8 1;";
            for (int rule = 0; rule < 3; rule++) {
                firstWorkIs("whatever the minutes", rule, led + "door 3 1 9;door 4 240 9;door 4 1 9;", 101);
                firstWorkIs("whatever the minutes", rule, led + "door 3 240 9;door 4 1 9;door 4 240 9;", 101);
            }
            firstWorkIs("worth does not come ahead of far", 0, "asks 2;person 00 0;person 87 0;door 1 1 9 0;door 9 1 9 1;", 1);
            firstWorkIs("nor of just", 1, "asks 2;person 00 0;person 78 0;door 1 1 9 0;door 9 1 9 1;", 1);
            firstWorkIs("nor of firm", 2, "asks 2;person 00 0;person 80 1;person 08 2;door 1 1 9 0;door 9 1 9 1;kin 1 2;", 1);
            firstWorkIs("nor of worth by minutes", 3, "asks 1;person 0 0;person 8 0;door 1 1 9;door 99 100 9;", 1);
        });
    }

    private static void runIs(String at, TwoHandles x, int rule, int days, int... answers) {
        for (int what = 0; what < answers.length; what++) {
            s.due(at + ": what " + what, x.run(rule, days, what), answers[what]);
        }
    }

    private static void runs() {
        s.of("Terms 3", "each DAY, from NOW on, WORK by WORK, as long as there is one", () -> {
            TwoHandles x = in("asks 1;person 0 0;person 8 0;" + times(10, "door 7 20 29;") + "day 50;");
            for (int days = 1; days <= 30; days++) {
                int works = Math.min(10, 2 * days);
                runIs(days + " days", x, 3, days, 7 * works, works, works, 1);
            }
            x.work(4, 0, 1);
            runIs("what is left of today", x, 3, 1, 7, 1, 2, 1);
            runIs("whole minutes tomorrow", x, 3, 2, 21, 3, 4, 1);
            for (int day = 1; day <= 29; day++) {
                x.next();
            }
            runIs("the last day", x, 3, 1, 14, 2, 3, 1);
            runIs("nothing to do", in("asks 1;"), 0, 30, 0, 0, 0, NONE);
            runIs("it begins on a later day", in("asks 2;person 00 0;person 08 0;door 5 1 9;slate 001;"), 0, 3, 5, 1, 1, 1);
            runIs("not yet", in("asks 2;person 00 0;person 08 0;door 5 1 9;slate 001;"), 0, 2, 0, 0, 0, NONE);
            runIs("by its day", in("asks 2;person 00 0;person 08 0;door 5 1 2;slate 001;"), 0, 30, 5, 1, 1, 1);
            runIs("too late", in("asks 2;person 00 0;person 08 0;door 5 1 1;slate 001;"), 0, 30, 0, 0, 0, NONE);
        });
        s.of("Terms 3", "nothing stays changed", () -> {
            for (int rule = 0; rule < 4; rule++) {
                int by = rule;
                s.keeps("run by " + rule, Sentences::busy, x -> x.run(by, 29, 2), 2);
                s.keeps("lot by " + rule, Sentences::full, x -> x.lot(by, 30, 1, 7) * 0, 0);
            }
        });
    }

    /** The DRAWS, as the document tells them, in numbers that do not wrap by themselves. */
    private static int[] draws(int seed, int asks) {
        int[] out = new int[30];
        java.math.BigInteger all = java.math.BigInteger.TWO.pow(32);
        java.math.BigInteger now = java.math.BigInteger.valueOf(seed).mod(all);
        for (int i = 0; i < out.length; i++) {
            now = now.multiply(java.math.BigInteger.valueOf(1103515245)).add(java.math.BigInteger.valueOf(12345)).mod(all);
            out[i] = now.intValue() >>> 16 & 0x7fff;
            out[i] %= asks;
        }
        return out;
    }

    private static void lots() {
        s.of("Terms 3", "the SEED (32 bits) becomes itself times 1,103,515,245, and 12,345 (it wraps); what its bits 16 to 30 leave by Q", () -> {
            for (int asks = 1; asks <= 4; asks++) {
                for (int seed : new int[] {0, 1, 2, -1, 77, 65536, Integer.MAX_VALUE, Integer.MIN_VALUE}) {
                    firstDays(asks, seed);
                }
            }
        });
        s.of("Terms 3", "By LOT: ahead of each DAY the SLATE is a DRAW of Q", () -> {
            // From day 3 on the first draw is that of day 3.
            TwoHandles x = onDay("asks 2;person 00 0;person 08 0;door 5 1 29;slate 0;", 3);
            for (int seed = 0; seed < 8; seed++) {
                int[] drawn = draws(seed, 2);
                s.due("the first draw is of now", x.lot(0, 1, 0, seed), drawn[0] == 1 ? 5 : 0);
                s.due("the second of tomorrow", x.lot(0, 2, 0, seed), drawn[0] + drawn[1] > 0 ? 5 : 0);
            }
            TwoHandles own = in("asks 2;person 00 0;person 08 0;door 5 1 29 1;slate 0;");
            s.due("a door with its own does not care", own.lot(0, 1, 0, 0) + own.lot(0, 1, 0, 1), 10);
        });
    }

    /** The first DAY on which a QUESTION is drawn is that on which a DOOR opens to two who disagree of it alone. */
    private static void firstDays(int asks, int seed) {
        int[] drawn = draws(seed, asks);
        for (int q = 0; q < asks; q++) {
            StringBuilder other = new StringBuilder("0000".substring(0, asks));
            other.setCharAt(q, '8');
            TwoHandles x = in("asks " + asks + ";person " + "0000".substring(0, asks) + " 0;person " + other + " 0;door 5 1 29;");
            boolean open = false;
            for (int days = 1; days <= 30; days++) {
                open |= drawn[days - 1] == q;
                s.due("question " + q + " of " + asks + " by seed " + seed, x.lot(0, days, 1, seed), open ? 1 : 0);
            }
        }
    }
}
