/** ==== 4 and ==== 5 of the document's terms, sentence by sentence: FEW, PAIRS, FEIGNS, CALM, FAMILIES, STARVED, TWO DAYS. */
public final class LawSentencesTest {
    private static final int NONE = TwoHandles.NONE;
    private static final Sentences s = new Sentences();

    private LawSentencesTest() {
    }

    public static void main(String[] args) {
        few();
        fewForEver();
        pairs();
        edge();
        feigns();
        once();
        calm();
        families();
        starved();
        slack();
        firm();
        twoDays();
        s.end("LawSentencesTest");
    }

    private static TwoHandles in(String text) {
        return Check.in(text);
    }

    private static TwoHandles onDay(String text, int day) {
        return Sentences.onDay(text, day);
    }

    private static String times(int n, String text) {
        return Sentences.times(n, text);
    }

    private static void fewIs(String at, TwoHandles x, int bits, int most, int soonest) {
        s.due(at + ": at most", x.few(bits, 0, 0), most);
        s.due(at + ": soonest", x.few(bits, 0, 1), soonest);
    }

    private static void few() {
        s.of("Terms 4", "FEW: 2 to 4 PERSONS who work about one QUESTION, DOORS and MINUTES no matter", () -> {
            fewIs("no doors", in("asks 1;person 0 1;person 8 1;"), 3, 3, 3);
            TwoHandles x = in("asks 2;person 00 1;person 48 1;door 5 30 0 1;day 30;");
            x.work(0, 0, 1);
            fewIs("no minutes, all is open", x, 3, 1, 1);
            s.due("as they think now", x.few(3, 1, 0), 2);
            fewIs("three", in("asks 1;person 0 0;person 4 4;person 0 0;"), 7, 1, 1);
            fewIs("four", in("asks 1;person 4 0;person 4 0;person 0 1;person 4 0;"), 15, 1, 1);
            TwoHandles eight = in("asks 1;" + times(6, "person 4 0;") + "person 0 1;person 8 1;");
            fewIs("the last two of eight", eight, 192, 3, 3);
            fewIs("the last four of eight", eight, 240, 4, 3);
            fewIs("others do not work", eight, 3, 0, 0);
        });
        s.of("Terms 4", "two who are not kin and GAP or more apart come nearer, one pair at a time", () -> {
            fewIs("kin", in("asks 1;person 0 1;person 8 1;kin 0 1;"), 3, 0, 0);
            fewIs("kin in three", in("asks 1;person 0 1;person 8 1;person 4 0;kin 0 1;kin 1 2;"), 7, 1, 1);
            for (int gap = 1; gap <= 8; gap++) {
                String people = "asks 1;gap " + gap + ";person 0 1;";
                fewIs("gap " + gap + ", one less", in(people + "person " + (gap - 1) + " 0;"), 3, 0, 0);
                fewIs("gap " + gap + ", just so", in(people + "person " + gap + " 0;"), 3, 1, 1);
                if (gap < 8) {
                    fewIs("gap " + gap + ", one more", in(people + "person " + (gap + 1) + " 0;"), 3, 2, 2);
                }
            }
        });
        s.of("Terms 4", "AT MOST: the most WORKS they can do", () -> {
            // 0 and 8 come to 4 both, and all is at rest; or 0 comes to 4 alone, and then both to 6.
            fewIs("the longer way", in("asks 1;person 0 4;person 8 4;person 4 0;"), 7, 2, 1);
            // 4 to 0 first, or 5 to 0 by 3 first: four works or three.
            fewIs("four or three", in("asks 1;gap 3;person 0 0;person 4 4;person 5 2;"), 7, 4, 3);
            fewIs("step by step", in("asks 1;gap 1;person 0 1;person 8 0;"), 3, 8, 8);
        });
        s.of("Terms 4", "SOONEST: the fewest WORKS behind which no two can", () -> {
            fewIs("nothing to do", in("asks 1;person 0 1;person 3 1;"), 3, 0, 0);
            fewIs("at once to one mind", in("asks 1;gap 1;person 0 4;person 8 4;"), 3, 1, 1);
            TwoHandles again = in("asks 1;gap 1;person 0 1;person 8 1;person 0 0;");
            for (int i = 0; i < 3; i++) {
                s.due("soonest first", again.few(3, 0, 1), 4);
                s.due("at most then", again.few(3, 0, 0), 4);
                s.due("for ever between", again.few(6, 0, 0), 8);
            }
            s.due("two by two", in("asks 1;person 0 4;person 8 4;person 0 4;person 8 4;").few(15, 0, 1), 2);
        });
    }

    private static void fewForEver() {
        s.of("Terms 4", "FOR EVER, if there is no end to it", () -> {
            fewIs("nobody is led", in("asks 1;person 0 0;person 8 0;"), 3, NONE, NONE);
            fewIs("but less than the gap apart", in("asks 1;person 0 0;person 3 0;"), 3, 0, 0);
            fewIs("but kin", in("asks 1;person 0 0;person 8 0;kin 0 1;"), 3, 0, 0);
            fewIs("to and fro between kin", in("asks 1;person 0 0;person 8 0;person 4 2;kin 0 1;"), 7, NONE, NONE);
            // 2 goes to and fro between 0 and 1; but if 2 and 3 meet at 4, it is at rest.
            TwoHandles x = in("asks 1;gap 5;person 0 0;person 8 0;person 1 4;person 7 4;kin 0 1;");
            fewIs("for ever, or at rest by one", x, 15, NONE, 1);
            fewIs("those two alone", x, 12, 1, 1);
        });
    }

    private static void pairsAre(String at, TwoHandles x, int pairs, int threes) {
        s.due(at + ": pairs", x.pairs(0, 0), pairs);
        s.due(at + ": threes", x.pairs(0, 1), threes);
    }

    private static void pairs() {
        String eight = "asks 1;person 0 0;person 1 0;person 2 0;person 3 0;person 4 0;person 5 0;person 6 0;person 7 0;";
        s.of("Terms 4", "PAIRS of a QUESTION: how many of two could open a DOOR of it (MINUTES, DOORS no matter)", () -> {
            pairsAre("nobody", in("asks 1;"), 0, 0);
            pairsAre("one", in("asks 1;person 4 0;"), 0, 0);
            pairsAre("just the gap", in("asks 1;person 0 0;person 4 0;"), 1, 0);
            pairsAre("one less", in("asks 1;person 0 0;person 3 0;"), 0, 0);
            pairsAre("kin", in("asks 1;person 0 0;person 8 0;kin 1 0;"), 0, 0);
            TwoHandles x = in("asks 1;person 0 0;person 8 0;door 5 30 0;day 30;");
            x.work(0, 0, 1);
            pairsAre("no minutes, no doors", x, 1, 0);
            s.due("of its question", in("asks 2;person 08 0;person 00 0;").pairs(1, 0), 1);
            s.due("of the other", in("asks 2;person 08 0;person 00 0;").pairs(0, 0), 0);
            int[] byGap = {28, 21, 15, 10, 6, 3, 1, 0};
            for (int gap = 1; gap <= 8; gap++) {
                s.due("gap " + gap, in(eight + "gap " + gap + ";").pairs(0, 0), byGap[gap - 1]);
            }
        });
        s.of("Terms 4", "THREES: of three each two of whom could", () -> {
            pairsAre("all of eight", in(eight + "gap 1;"), 28, 56);
            pairsAre("kin are in six threes", in(eight + "gap 1;kin 2 5;"), 27, 50);
            pairsAre("three", in("asks 1;person 0 0;person 4 0;person 8 0;"), 3, 1);
            pairsAre("one pair less", in("asks 1;person 0 0;person 3 0;person 8 0;"), 2, 0);
            pairsAre("one pair kin", in("asks 1;person 0 0;person 4 0;person 8 0;kin 0 2;"), 2, 0);
        });
    }

    private static void edgeIs(String at, String town, int pair, int three) {
        s.due(at + ": pair", in(town).edge(0, 0), pair);
        s.due(at + ": three", in(town).edge(0, 1), three);
    }

    private static void edge() {
        s.of("Terms 4", "EDGE: the greatest GAP by which there would be a pair (or three)", () -> {
            for (int apart = 0; apart <= 8; apart++) {
                edgeIs("two " + apart + " apart", "asks 1;person 0 0;person " + apart + " 0;", apart, 0);
                edgeIs("gap no matter", "asks 1;gap 8;person 0 0;person " + apart + " 0;", apart, 0);
                edgeIs("a third " + apart, "asks 1;person 0 0;person 8 0;person " + apart + " 0;", 8, Math.min(apart, 8 - apart));
            }
            edgeIs("nobody", "asks 1;", 0, 0);
            edgeIs("kin do not count", "asks 1;person 0 0;person 8 0;person 5 0;kin 0 1;", 5, 0);
            edgeIs("the best three of four", "asks 1;person 0 0;person 1 0;person 4 0;person 8 0;", 8, 4);
        });
    }

    private static void restIs(String at, int feigns, int w, int p, int c, int g, int looked, int feigned) {
        TwoHandles x = in("asks 1;person 0 0;person 0 0;feigns 1 " + feigns + ";");
        s.due(at + ": looked at", x.rest(1, w, p, c, g, 0), looked);
        s.due(at + ": feigned", x.rest(1, w, p, c, g, 1), feigned);
    }

    private static void feigns() {
        s.of("Terms 4", "LOOKED at of 1,000: 10,000 w by (10 less N) times (w and p); FEIGNED of 1,000: 10,000 c by (10 less N) times g", () -> {
            restIs("0 of 10", 0, 1, 1, 1, 2, 500, 500);
            restIs("5 of 10", 5, 1, 3, 1, 4, 500, 500);
            restIs("9 of 10", 9, 1, 99, 1, 99, 100, 101);
            restIs("9 of 10, the greatest", 9, 99, 99, 99, 99, 1000, 1000);
            restIs("the least looked at", 0, 1, 99, 1, 99, 10, 10);
            restIs("4", 4, 1, 9, 2, 10, 166, 333);
        });
        s.of("Terms 4", "(both cut, 1,000 at most)", () -> {
            restIs("just 1,000", 9, 1, 9, 7, 70, 1000, 1000);
            restIs("just below", 9, 1, 10, 7, 71, 909, 985);
            restIs("just above", 9, 1, 8, 7, 69, 1000, 1000);
            restIs("cut", 0, 1, 2, 98, 99, 333, 989);
            restIs("far above", 9, 99, 1, 99, 1, 1000, 1000);
            restIs("of one who does not feign", 0, 99, 1, 99, 98, 990, 1000);
        });
        s.of("Terms 4", "he is seen through in 10 less N of 10", () -> {
            int[] looked = {50, 55, 62, 71, 83, 100, 125, 166, 250, 500};
            for (int n = 0; n <= 9; n++) {
                restIs("feigns by " + n, n, 1, 19, 1, 20, looked[n], looked[n]);
            }
            TwoHandles x = in("asks 1;person 0 0;feigns 0 9;person 0 0;");
            s.due("of him", x.rest(0, 1, 19, 1, 20, 0), 500);
            s.due("of another one: 0 without", x.rest(1, 1, 19, 1, 20, 0), 50);
        });
    }

    private static void once() {
        s.of("Terms 5", "the most pairs without a PERSON in two, each of whom could open a DOOR of a QUESTION", () -> {
            s.due("nobody", in("asks 1;").once(0), 0);
            s.due("one", in("asks 1;person 0 0;").once(0), 0);
            for (int n = 0; n <= 4; n++) {
                s.due(n + " pairs", in("asks 1;" + times(n, "person 0 0;person 8 0;")).once(0), n);
            }
            s.due("a star", in("asks 1;person 0 0;" + times(7, "person 8 0;")).once(0), 1);
            s.due("just the gap", in("asks 1;person 0 0;person 4 0;").once(0), 1);
            s.due("one less", in("asks 1;person 0 0;person 3 0;").once(0), 0);
            s.due("kin", in("asks 1;person 0 0;person 8 0;kin 0 1;").once(0), 0);
            s.due("three are one pair", in("asks 1;person 0 0;person 4 0;person 8 0;").once(0), 1);
            // A row 2 - 0 - 1 - 3: the pair in its middle would leave nobody.
            s.due("not the pair at hand", in("asks 1;person 0 0;person 5 0;person 4 0;person 1 0;kin 2 3;").once(0), 2);
            TwoHandles x = in("asks 2;person 08 0;person 00 0;door 5 30 0 1;day 30;");
            x.work(0, 0, 1);
            s.due("of its question, without minutes and doors", x.once(1), 1);
            s.due("of the other", x.once(0), 0);
        });
    }

    private static void calmIs(String at, String town, int howMany, int bits) {
        TwoHandles x = in(town);
        s.due(at + ": how many", x.calm(0, 0), howMany);
        s.due(at + ": bits", x.calm(0, 1), bits);
    }

    private static void calm() {
        s.of("Terms 5", "CALM: the most PERSONS no two of whom could", () -> {
            calmIs("nobody", "asks 1;", 0, 0);
            calmIs("one", "asks 1;person 4 0;", 1, 1);
            calmIs("all eight", "asks 1;" + times(8, "person 4 0;"), 8, 255);
            calmIs("one less than the gap", "asks 1;person 0 0;person 3 0;", 2, 3);
            calmIs("just the gap", "asks 1;person 0 0;person 4 0;", 1, 1);
            calmIs("kin", "asks 1;person 0 0;person 8 0;kin 0 1;", 2, 3);
            calmIs("all but the first", "asks 1;person 0 0;" + times(7, "person 8 0;"), 7, 254);
        });
        s.of("Terms 5", "of these sets the least (bits)", () -> {
            calmIs("two and two", "asks 1;person 8 0;person 0 0;person 0 0;person 7 0;", 2, 6);
            calmIs("one of three", "asks 1;person 0 0;person 4 0;person 8 0;", 1, 1);
            calmIs("0 and 1, or 1 and 2", "asks 1;person 2 0;person 5 0;person 8 0;", 2, 3);
            calmIs("more persons ahead of lesser bits", "asks 1;person 8 0;person 8 0;person 0 0;person 0 0;person 0 0;", 3, 28);
        });
    }

    private static void families() {
        s.of("Terms 5", "FAMILIES: sets of PERSONS that hang together by kin, one alone, too", () -> {
            s.due("nobody", in("asks 1;").family(NONE), 0);
            s.due("one alone", in("asks 1;person 0 0;").family(NONE), 1);
            s.due("his", in("asks 1;person 0 0;").family(0), 1);
            s.due("eight alone", in("asks 1;" + times(8, "person 0 0;")).family(NONE), 8);
            TwoHandles x = in("asks 1;" + times(8, "person 0 0;") + "kin 7 0;kin 0 6;kin 6 1;kin 1 5;kin 5 2;kin 2 4;kin 4 3;");
            s.due("a long row", x.family(NONE), 1);
            for (int p = 0; p < 8; p++) {
                s.due("all hang together", x.family(p), 8);
            }
            TwoHandles y = in("asks 1;" + times(8, "person 0 0;") + "kin 0 7;kin 7 0;kin 1 6;kin 6 5;");
            int[] of = {2, 3, 1, 1, 1, 3, 3, 2};
            s.due("five", y.family(NONE), 5);
            for (int p = 0; p < 8; p++) {
                s.due("that of " + p, y.family(p), of[p]);
            }
        });
    }

    private static void starved() {
        s.of("Terms 5", "the first DAY, from NOW on to the last one, of its RUN", () -> {
            // One WORK a day from day 20 on to day 28; door 9 takes too long and waits for ever.
            String nine = "asks 1;person 0 0;person 8 0;" + times(9, "door 5 30 29;") + "day 30;";
            s.due("the last day", onDay(nine + "door 5 31 29;", 20).starved(0), 29);
            s.due("it is too late by then", onDay(nine + "door 5 31 28;", 20).starved(0), NONE);
            s.due("the last day is too early", onDay(nine + "door 5 31 29;", 21).starved(3), NONE);
            s.due("one day sooner", onDay(nine + "door 5 31 29;", 19).starved(1), 28);
            s.due("from day 0", in(nine + "door 5 31 29;").starved(2), 9);
            s.due("now", onDay("asks 1;door 5 1 29;", 29).starved(0), 29);
            s.due("now is 0", in("asks 1;door 5 1 0;").starved(0), 0);
            s.due("behind its day", onDay("asks 1;door 5 1 0;", 1).starved(0), NONE);
            s.due("no doors", in("asks 1;person 0 0;").starved(0), NONE);
        });
        s.of("Terms 5", "there is a DOOR that is neither open nor too late when it begins, and no WORK is done", () -> {
            String turn = "asks 2;person 00 0;person 08 0;slate 1001;";
            s.due("opened at once", in(turn + "door 5 1 9;").starved(0), NONE);
            s.due("another waits on day 1", in(turn + "door 5 1 9;door 6 1 9 0;").starved(0), 1);
            s.due("until day 0 alone", in(turn + "door 5 1 9;door 6 1 0 0;").starved(0), NONE);
            s.due("until day 1", in(turn + "door 5 1 9;door 6 1 1 0;").starved(0), 1);
            TwoHandles x = in(turn + "door 5 1 9;");
            x.work(0, 0, 1);
            s.due("all open already", x.starved(0), NONE);
            TwoHandles y = in(turn + "door 5 1 9;door 6 1 9 0;");
            y.work(0, 0, 1);
            s.due("nothing left to do today", y.starved(0), 0);
            s.due("on day 1 the slate is 0", onDay(turn + "door 5 1 9;", 1).starved(0), 1);
            TwoHandles z = in("asks 1;person 0 0;person 8 0;door 5 31 0;day 30;");
            s.due("it waits", z.starved(0), 0);
            z.next();
            s.due("no longer", z.starved(0), NONE);
        });
    }

    private static void slack() {
        s.of("Terms 5", "the greatest GAP (1 to 8) by which TODAY about it is worth as much as by GAP (0, if it is worth nothing)", () -> {
            for (int gap = 1; gap <= 8; gap++) {
                for (int apart = 0; apart <= 8; apart++) {
                    TwoHandles x = in("asks 1;gap " + gap + ";person 0 0;person " + apart + " 0;door 5 1 9;");
                    s.due("gap " + gap + ", apart " + apart, x.slack(0), apart < gap ? 0 : apart);
                }
            }
            s.due("two pairs", in("asks 1;person 0 0;person 8 0;person 2 0;person 8 0;door 5 1 9;door 5 1 9;").slack(NONE), 6);
            s.due("one is enough", in("asks 1;person 0 0;person 8 0;person 2 0;person 8 0;door 5 1 9;").slack(NONE), 8);
            s.due("less worth is not as much", in("asks 1;person 0 0;person 8 0;person 2 0;person 8 0;door 5 1 9;door 1 1 9;").slack(NONE), 6);
            s.due("no doors", in("asks 1;person 0 0;person 8 0;").slack(NONE), 0);
            TwoHandles y = in("asks 2;person 00 0;person 75 0;door 5 1 9;slate 01;");
            s.due("of the slate's", y.slack(NONE), 7);
            s.due("told", y.slack(1), 5);
            y.next();
            s.due("of the slate's of now", y.slack(NONE), 5);
            TwoHandles own = in("asks 2;person 00 0;person 75 0;door 5 1 9;door 6 1 9 1;person 00 0;person 88 0;");
            s.due("a door with its own counts", own.slack(0), 7);
        });
    }

    private static void firm() {
        s.of("Terms 5", "FIRM: by how much more a RUN is worth, if a PERSON is LED by 0 steps in it", () -> {
            TwoHandles x = in("asks 1;person 0 2;person 5 0;person 4 0;kin 0 2;door 5 1 9;door 6 1 9;");
            for (int rule = 0; rule < 4; rule++) {
                s.due("more", x.firm(0, rule, 1), 5);
                s.due("he is not led", x.firm(1, rule, 1), 0);
                s.due("he does nothing", x.firm(2, rule, 1), 0);
            }
            s.due("by 0 steps, not by 1", in("asks 1;person 0 4;person 4 0;door 5 1 9;door 6 1 9;").firm(0, 0, 1), 5);
            // By FIRM he is chosen first if he is stiff, and then all are too near.
            TwoHandles less = in("asks 1;person 6 4;person 4 2;person 0 3;person 6 3;door 7 1 0;door 7 1 0;door 7 1 0;");
            s.due("three works", less.run(2, 1, 1), 3);
            s.due("less", less.firm(0, 2, 1), -14);
            TwoHandles late = in("asks 1;person 0 2;person 5 0;door 5 30 9;door 6 30 9;day 30;");
            s.due("on one day no more", late.firm(0, 0, 1), 0);
            s.due("on two days more", late.firm(0, 0, 2), 5);
            s.keeps("nothing stays", Sentences::busy, y -> y.firm(1, 0, 29) * 0, 0);
        });
    }

    private static void twoIs(String at, TwoHandles x, int worth, int now, int next) {
        s.due(at + ": worth", x.twoDays(0), worth);
        s.due(at + ": now", x.twoDays(1), now);
        s.due(at + ": next", x.twoDays(2), next);
    }

    private static void twoDays() {
        String two = "asks 1;person 0 0;person 8 0;";
        s.of("Terms 5", "each NOW or on the next DAY, the second not ahead of the first one; at most one on each", () -> {
            twoIs("nothing", in(two), 0, NONE, NONE);
            twoIs("one", in(two + "door 5 1 9;"), 5, 1, NONE);
            twoIs("two", in(two + "door 5 1 9;door 6 1 9;"), 11, 1, 101);
            TwoHandles now = in(two + "door 5 1 0;door 6 1 0;");
            s.due("two now", now.best(0), 11);
            twoIs("not two on one day", now, 6, 101, NONE);
            s.due("still two now", now.best(2), 101);
            twoIs("two of three", in(two + "door 5 1 9;door 6 1 9;door 7 1 9;"), 13, 101, 201);
            twoIs("the one of today first", in(two + "door 5 1 9;door 6 1 0;"), 11, 101, 1);
            twoIs("minutes anew", in(two + "door 5 30 9;door 6 30 9;day 30;"), 11, 1, 101);
            twoIs("too near behind the first", in("asks 1;person 0 1;person 4 0;door 5 1 9;door 6 1 9;"), 6, 101, NONE);
            TwoHandles tired = in(two + "door 5 30 9;door 6 30 9;door 7 30 9;day 30;");
            tired.work(0, 0, 1);
            twoIs("no minutes now", tired, 7, NONE, 201);
            twoIs("its slate", in("asks 2;person 00 0;person 08 0;door 5 1 9;slate 01;"), 5, NONE, 1);
            twoIs("the last day but one", onDay(two + "door 5 1 29;door 6 1 29;", 28), 11, 1, 101);
            twoIs("the last day", onDay(two + "door 5 1 29;door 6 1 29;", 29), 6, 101, NONE);
            twoIs("nothing on the last day", onDay(two + "door 5 1 28;", 29), 0, NONE, NONE);
        });
        s.of("Terms 5", "of these the first (none; NOW alone; the next DAY alone; both; by DOOR, lesser PERSON, other one)", () -> {
            twoIs("now ahead of the next day", in(two + "door 5 1 1;"), 5, 1, NONE);
            // With one minute left, door 1 can be had now, door 0 on the next day, and not both: they come to one mind.
            TwoHandles hasty = in("asks 2;day 30;person 00 4;person 88 4;door 5 30 9 0;door 5 1 9 0;door 1 29 9 1;");
            hasty.work(2, 0, 1);
            twoIs("now alone, though by a later door", hasty, 5, 101, NONE);
            // Door 2 alone is worth as much as door 0 now and door 1 on the next day; door 2 spoils door 1.
            twoIs("now alone ahead of both", in("asks 2;person 00 4;person 88 4;door 4 1 0 1;door 4 1 1 0;door 8 1 0 0;"), 8, 201, NONE);
            // On the next day door 2 alone, or door 0 now, which spoils door 2, and door 1 then.
            TwoHandles patient = in("asks 3;day 30;person 000 4;person 888 4;door 4 1 9 1;door 4 30 9 2;door 8 30 9 1;door 1 29 9 0;");
            patient.work(3, 0, 1);
            twoIs("the next day alone ahead of both", patient, 8, NONE, 201);
            twoIs("the second by its own order", in("asks 1;person 0 4;person 8 4;person 8 0;door 5 1 9;door 5 1 9;"), 10, 1, 102);
            twoIs("by door", in(two + "door 5 1 9;door 5 1 9;door 5 1 9;"), 10, 1, 101);
            twoIs("by lesser person", in("asks 1;person 4 0;person 0 0;person 8 0;kin 0 1;door 5 1 9;"), 5, 2, NONE);
            twoIs("by other one", in("asks 1;person 0 0;person 8 0;person 8 0;door 5 1 9;"), 5, 1, NONE);
        });
    }
}
