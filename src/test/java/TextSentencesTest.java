/** ==== 1 of the document's terms: what a TOWN's text may tell, and its FAULTS, sentence by sentence. */
public final class TextSentencesTest {
    private static final String PART = "Terms 1";
    private static final Sentences s = new Sentences();

    private TextSentencesTest() {
    }

    public static void main(String[] args) {
        lengthAndClauses();
        persons();
        feignsAndKin();
        doors();
        gapAndDay();
        slate();
        howMany();
        theLastCounts();
        numbersAndWords();
        blanks();
        whatCannotStand();
        endsTooEarly();
        firstWord();
        wrongNumbers();
        tooMany();
        whichFault();
        s.end("TextSentencesTest");
    }

    private static String times(int n, String text) {
        return Sentences.times(n, text);
    }

    private static void lengthAndClauses() {
        s.of(PART, "A TOWN is a text of up to 500 bytes", () -> {
            s.fine("asks 1;" + times(492, " "));
            TwoHandles x = s.fine("asks 1;" + times(487, " ") + "gap 7;");
            s.due("the last bytes of 500", x.told(3), 7);
            TwoHandles y = new TwoHandles();
            Check.feed(y, "asks 1;" + times(487, " ") + "gap 7;");
            s.due("no byte behind 500", y.feed(0, 0, 0, 0, 0), -1);
            s.due("500 are told", y.town(500), 0);
            s.due("as they stand", y.told(3), 7);
            s.fault(1, "asks 1;" + times(488, " ") + "gap 7^");
            // Whatever the last byte is, nothing is looked for behind it.
            String[] ends = {"person^", "person 1234^", "person 1234 ^", "person 1234 4^", "kin^", "door 1 1 1^", "door 1 1 1 ^",
                "door 1 1 1 0^", "slate 0123012^", "day 999^", "gap ^"};
            for (String end : ends) {
                s.fault(1, "asks 4;" + times(494 - end.length(), " ") + end);
            }
            s.fault(1, "asks 4;" + times(490, " ") + "^per");
            s.fault(2, "asks 4;" + times(483, " ") + "person ^123");
            s.fault(2, "asks 4;" + times(487, " ") + "gap ^10");
            s.fine("asks 4;" + times(479, " ") + "person 1234 4;");
        });
        s.of(PART, "\"asks\" Q, and then { CLAUSE }, each with \";\" behind it", () -> {
            s.fine("asks 1;");
            s.fine("asks 1;gap 4;");
            s.fault(1, "asks 1^");
            s.fault(1, "asks 1 ^gap 4;");
            s.fault(1, "asks 1;gap 4^");
            s.fault(1, "asks 1;gap 4^gap 4;");
            s.fault(1, "asks 1;day 30 ^gap 4;");
            s.fault(1, "asks 1;person 0 0 ^person 0 0;");
            s.fault(1, "asks 1;person 0 0;feigns 0 0 ^gap 4;");
            s.fault(1, "asks 1;person 0 0;person 0 0;kin 0 1 ^gap 4;");
            s.fault(1, "asks 1;door 1 1 1 ^gap 4;");
            s.fault(1, "asks 1;door 1 1 1 0 ^gap 4;");
            s.fault(1, "asks 1;slate 0 ^gap 4;");
            s.fault(1, "asks 1;^;");
            s.fault(1, "asks 1;gap 4;^;");
            s.fault(1, "^;asks 1;");
        });
        s.of(PART, "40 in all", () -> {
            s.fine("asks 1;" + times(38, "gap 4;"));
            TwoHandles x = s.fine("asks 1;" + times(38, "gap 4;") + "gap 3;");
            s.due("the 40th is told", x.told(3), 3);
            s.fault(3, "asks 1;" + times(39, "gap 4;") + "^gap 4;");
            s.due("all kinds together", Sentences.full().told(1), 8);
            s.fault(3, Sentences.fullText() + "^day 30;");
        });
        s.of(PART, "Q 1 to 4", () -> {
            s.fault(2, "asks ^0;");
            for (int q = 1; q <= 4; q++) {
                s.due("questions", s.fine("asks " + q + ";").told(0), q);
            }
            s.fault(2, "asks ^5;");
        });
    }

    private static void persons() {
        s.of(PART, "O has just Q digits", () -> {
            for (int q = 1; q <= 4; q++) {
                String asks = "asks " + q + ";";
                s.due("just so many", s.fine(asks + "person " + "1234".substring(0, q) + " 0;").told(1), 1);
                s.fault(2, asks + "person ^" + "12345".substring(0, q + 1) + " 0;");
                if (q > 1) {
                    s.fault(2, asks + "person ^" + "1234".substring(0, q - 1) + " 0;");
                }
            }
            s.fault(1, "asks 1;person ^;");
            s.fault(2, "asks 4;person ^00000 0;");
        });
        s.of(PART, "0 to 8 each", () -> {
            TwoHandles x = s.fine("asks 4;person 0000 0;person 8888 0;");
            for (int q = 0; q < 4; q++) {
                s.due("the least", x.thinks(0, q), 0);
                s.due("the greatest", x.thinks(1, q), 8);
            }
            s.fault(2, "asks 4;person ^9000 0;");
            s.fault(2, "asks 4;person ^0900 0;");
            s.fault(2, "asks 4;person ^0090 0;");
            s.fault(2, "asks 4;person ^0009 0;");
        });
        s.of(PART, "that of QUESTION 0 first", () -> {
            TwoHandles x = s.fine("asks 4;person 1357 0;");
            for (int q = 0; q < 4; q++) {
                s.due("question " + q, x.thinks(0, q), 1 + 2 * q);
            }
        });
        s.of(PART, "LED by L steps, 0 to 4", () -> {
            for (int led = 0; led <= 4; led++) {
                s.due("led", s.fine("asks 1;person 0 " + led + ";").person(0, 0), led);
            }
            s.fault(2, "asks 1;person 0 ^5;");
            s.fault(2, "asks 1;person 0 ^10;");
            s.fault(1, "asks 1;person 0 ^-1;");
        });
    }

    private static void feignsAndKin() {
        s.of(PART, "\"feigns\" K N (PERSON K, 0 to 9)", () -> {
            s.due("the least", s.fine("asks 1;person 0 0;feigns 0 0;").person(0, 2), 0);
            s.due("the greatest", s.fine("asks 1;person 0 0;feigns 0 9;").person(0, 2), 9);
            s.fault(2, "asks 1;person 0 0;feigns 0 ^10;");
            s.fault(1, "asks 1;person 0 0;feigns 0^;");
            s.fault(1, "asks 1;person 0 0;feigns ^;");
            TwoHandles x = s.fine("asks 1;" + times(8, "person 0 0;") + "feigns 7 6;");
            s.due("of the last person", x.person(7, 2), 6);
            s.due("of nobody else", x.person(6, 2), 0);
        });
        s.of(PART, "K, J: told ahead", () -> {
            s.fault(2, "asks 1;feigns ^0 1;person 0 0;");
            s.fine("asks 1;person 0 0;feigns 0 1;");
            s.fault(2, "asks 1;person 0 0;feigns ^1 1;person 0 0;");
            s.fault(2, "asks 1;kin ^0 1;person 0 0;person 0 0;");
            s.fault(2, "asks 1;person 0 0;kin 0 ^1;person 0 0;");
            s.fault(2, "asks 1;person 0 0;kin ^1 0;person 0 0;");
            s.due("both told", s.fine("asks 1;person 0 0;person 0 0;kin 1 0;").told(5), 1);
            s.fault(2, "asks 1;" + times(8, "person 0 0;") + "kin 7 ^8;");
            s.fault(2, "asks 1;" + times(8, "person 0 0;") + "kin ^8 7;");
            s.fault(2, "asks 1;" + times(8, "person 0 0;") + "feigns ^8 1;");
            s.due("the last one", s.fine("asks 1;" + times(8, "person 0 0;") + "kin 7 6;").person(7, 3), 1);
        });
        s.of(PART, "not one and the same", () -> {
            s.fault(2, "asks 1;person 0 0;kin 0 ^0;");
            s.fault(2, "asks 1;person 0 0;person 0 0;kin 1 ^1;");
            s.fault(2, "asks 1;person 0 0;person 0 0;kin 1 ^01;");
            s.fine("asks 1;person 0 0;person 0 0;kin 1 0;");
        });
        s.of(PART, "kin twice are kin", () -> {
            TwoHandles x = s.fine("asks 1;person 0 0;person 8 0;kin 0 1;kin 1 0;kin 0 1;door 1 1 1;");
            s.due("pairs of kin", x.told(5), 1);
            s.due("kin of 0", x.person(0, 3), 1);
            s.due("kin of 1", x.person(1, 3), 1);
            s.due("they err", x.may(0, 0, 1), 3);
        });
    }

    private static void doors() {
        s.of(PART, "WORTH 1 to 99", () -> {
            s.fault(2, "asks 1;door ^0 1 1;");
            s.due("the least", s.fine("asks 1;door 1 1 1;").door(0, 0), 1);
            s.due("the greatest", s.fine("asks 1;door 99 1 1;").door(0, 0), 99);
            s.fault(2, "asks 1;door ^100 1 1;");
        });
        s.of(PART, "MINUTES 1 to 240", () -> {
            s.fault(2, "asks 1;door 1 ^0 1;");
            s.due("the least", s.fine("asks 1;door 1 1 1;").door(0, 1), 1);
            s.due("the greatest", s.fine("asks 1;door 1 240 1;").door(0, 1), 240);
            s.fault(2, "asks 1;door 1 ^241 1;");
        });
        s.of(PART, "by DAY B, 0 to 29", () -> {
            s.due("the least", s.fine("asks 1;door 1 1 0;").door(0, 2), 0);
            s.due("the greatest", s.fine("asks 1;door 1 1 29;").door(0, 2), 29);
            s.fault(2, "asks 1;door 1 1 ^30;");
        });
        s.of(PART, "about that QUESTION, else about the SLATE's", () -> {
            s.due("none told", s.fine("asks 3;door 1 1 1;").door(0, 3), -1);
            s.due("the first", s.fine("asks 3;door 1 1 1 0;").door(0, 3), 0);
            s.due("the last", s.fine("asks 3;door 1 1 1 2;").door(0, 3), 2);
            TwoHandles x = s.fine("asks 2;person 08 0;person 00 0;door 1 1 9;door 1 1 9 1;slate 01;");
            s.due("about the slate's", x.may(0, 0, 1), 5);
            s.due("about its own", x.may(1, 0, 1), 0);
            x.next();
            s.due("about the slate's of day 1", x.may(0, 0, 1), 0);
        });
        s.of(PART, "of door and slate 0 to Q less 1", () -> {
            for (int q = 1; q <= 4; q++) {
                s.due("of a door", s.fine("asks " + q + ";door 1 1 1 " + (q - 1) + ";").door(0, 3), q - 1);
                s.fault(2, "asks " + q + ";door 1 1 1 ^" + q + ";");
                s.due("of the slate", s.fine("asks " + q + ";slate " + (q - 1) + ";").slate(0), q - 1);
                s.fault(2, "asks " + q + ";slate ^" + q + ";");
            }
        });
        s.of(PART, "\"door\" W N B, perhaps Q", () -> {
            s.fault(1, "asks 1;door ^;");
            s.fault(1, "asks 1;door 1^;");
            s.fault(1, "asks 1;door 1 1^;");
            s.fine("asks 1;door 1 1 1;");
            s.fine("asks 1;door 1 1 1 0;");
            s.fault(1, "asks 1;door 1 1 1 0 ^0;");
            s.fault(1, "asks 1;door 1 1 1 ^x;");
        });
    }

    private static void gapAndDay() {
        s.of(PART, "\"gap\" N (1 to 8; 4 without)", () -> {
            s.fault(2, "asks 1;gap ^0;");
            for (int gap = 1; gap <= 8; gap++) {
                s.due("gap", s.fine("asks 1;gap " + gap + ";").told(3), gap);
            }
            s.fault(2, "asks 1;gap ^9;");
            s.due("without", s.fine("asks 1;").told(3), 4);
            s.fault(1, "asks 1;gap ^;");
        });
        s.of(PART, "\"day\" N (MINUTES 30 to 999; 480 without)", () -> {
            s.fault(2, "asks 1;day ^29;");
            s.due("the least", s.fine("asks 1;day 30;").told(4), 30);
            s.due("the greatest", s.fine("asks 1;day 999;").told(4), 999);
            s.fault(2, "asks 1;day ^1000;");
            s.due("without", s.fine("asks 1;").told(4), 480);
            s.due("minutes without", s.fine("asks 1;person 0 0;").person(0, 1), 480);
            s.fault(1, "asks 1;day ^;");
        });
    }

    private static void slate() {
        s.of(PART, "1 to 7 digits, each a QUESTION", () -> {
            s.fault(1, "asks 4;slate ^;");
            s.due("one", s.fine("asks 4;slate 3;").told(6), 1);
            s.due("six", s.fine("asks 4;slate 012301;").told(6), 6);
            s.due("seven", s.fine("asks 4;slate 0123012;").told(6), 7);
            s.fault(2, "asks 4;slate ^01230123;");
            s.fault(2, "asks 4;slate ^0123014;");
            s.fault(2, "asks 4;slate ^4012301;");
            s.fault(2, "asks 1;slate ^0000000000000000000000;");
        });
        s.of(PART, "of DAY d it is the one of what d leaves by how many", () -> {
            String all = "0123321";
            for (int n = 1; n <= 7; n++) {
                TwoHandles x = s.fine("asks 4;slate " + all.substring(0, n) + ";");
                for (int day = 0; day < 30; day++) {
                    s.due("day " + day + " of " + n, x.slate(day), all.charAt(day % n) - '0');
                }
            }
        });
        s.of(PART, "QUESTION 0 without", () -> {
            TwoHandles x = s.fine("asks 4;person 0888 0;person 0000 0;door 1 1 29;");
            s.due("day 0", x.slate(0), 0);
            s.due("day 29", x.slate(29), 0);
            s.due("nobody disagrees about it", x.may(0, 0, 1), 5);
        });
    }

    private static void howMany() {
        s.of(PART, "PERSONS 0, 1, .., eight at most", () -> {
            s.due("none", s.fine("asks 1;").told(1), 0);
            s.due("seven", s.fine("asks 1;" + times(7, "person 0 0;")).told(1), 7);
            TwoHandles x = s.fine("asks 1;person 0 0;person 1 0;person 2 0;person 3 0;person 4 0;person 5 0;person 6 0;person 7 0;");
            for (int p = 0; p < 8; p++) {
                s.due("person " + p, x.thinks(p, 0), p);
            }
            s.fault(3, "asks 1;" + times(8, "person 0 0;") + "^person 0 0;");
        });
        s.of(PART, "DOORS likewise, ten", () -> {
            s.due("none", s.fine("asks 1;").told(2), 0);
            s.due("nine", s.fine("asks 1;" + times(9, "door 1 1 1;")).told(2), 9);
            StringBuilder ten = new StringBuilder("asks 1;");
            for (int d = 0; d < 10; d++) {
                ten.append("door ").append(11 + d).append(" 1 1;");
            }
            TwoHandles x = s.fine(ten.toString());
            for (int d = 0; d < 10; d++) {
                s.due("door " + d, x.door(d, 0), 11 + d);
            }
            s.fault(3, ten + "^door 1 1 1;");
        });
    }

    private static void theLastCounts() {
        s.of(PART, "Of feigns of one PERSON, gap, day, slate the last counts", () -> {
            TwoHandles x = s.fine("asks 3;person 000 0;person 000 0;feigns 0 9;feigns 1 8;feigns 0 3;gap 8;gap 2;day 999;day 31;"
                    + "slate 0120120;slate 21;");
            s.due("feigns of 0", x.person(0, 2), 3);
            s.due("feigns of 1", x.person(1, 2), 8);
            s.due("gap", x.told(3), 2);
            s.due("day", x.told(4), 31);
            s.due("minutes", x.person(0, 1), 31);
            s.due("digits of the slate", x.told(6), 2);
            s.due("slate of day 0", x.slate(0), 2);
            s.due("slate of day 1", x.slate(1), 1);
            s.due("slate of day 2", x.slate(2), 2);
            s.due("a longer one behind a shorter", s.fine("asks 3;slate 1;slate 0122;").slate(3), 2);
            s.due("0 behind 9", s.fine("asks 1;person 0 0;feigns 0 9;feigns 0 0;").person(0, 2), 0);
        });
    }

    private static void numbersAndWords() {
        s.of(PART, "Numbers: digits, as many as stand there", () -> {
            s.due("zeros ahead", s.fine("asks 0000000000000000000004;").told(0), 4);
            s.due("zeros ahead of a gap", s.fine("asks 1;gap 008;").told(3), 8);
            s.due("zeros ahead of a day", s.fine("asks 1;day 000000999;").told(4), 999);
            s.fault(2, "asks ^10;");
            s.fault(2, "asks ^4294967297;");
            s.fault(2, "asks ^18446744073709551617;");
            s.fault(2, "asks 1;day ^1000000000000000000000000000000000480;");
            s.fault(2, "asks 1;gap ^44;");
            s.fault(2, "asks 1;person 0 ^4294967296;");
            s.fault(2, "asks ^" + times(480, "1") + ";");
            s.due("no digit left behind", s.fine("asks " + times(400, "0") + "2;").told(0), 2);
        });
        s.of(PART, "WORDS: small letters, as many as stand there", () -> {
            s.fault(1, "^ask 1;");
            s.fault(1, "^askss 1;");
            s.fault(1, "^Asks 1;");
            s.fault(1, "^ASKS 1;");
            for (String word : new String[] {"asks", "person", "feigns", "kin", "door", "gap", "day", "slate"}) {
                for (int i = 0; i < word.length(); i++) {
                    String other = word.substring(0, i) + (char) (word.charAt(i) + 1) + word.substring(i + 1);
                    s.fault(1, word.equals("asks") ? "^" + other + " 1;" : "asks 1;person 0 0;person 0 0;^" + other + " 1 0 1;");
                }
            }
            s.fault(1, "asks 1;^gapp 4;");
            s.fault(1, "asks 1;^ga 4;");
            s.fault(1, "asks 1;^gapday 4;");
            s.fault(1, "asks 1;^gapz 4;");
            s.fault(1, "asks 1;gap^G 4;");
            s.fault(1, "asks 1;^dooR 1 1 1;");
            s.fault(1, "asks 1;^kins 0 1;");
            s.fault(1, "asks 1;^persons 0 0;");
            s.fault(1, "asks 1;^feign 0 0;");
            s.fault(1, "asks 1;^days 30;");
            s.fault(1, "asks 1;^slat 0;");
            s.fault(1, "asks 1;^" + times(400, "a") + ";");
            s.fine("asks1;person0 0;person0 0;feigns0 0;kin0 1;door1 1 1;gap4;day30;slate0;");
            s.fault(1, "asks 1;gap^`4;");
            s.fault(1, "asks 1;gap^{4;");
            s.fault(1, "asks 1;gap ^/;");
            s.fault(1, "asks 1;gap ^:;");
        });
    }

    private static void blanks() {
        s.of(PART, "blanks (32) may stand ahead of all these, and at the end", () -> {
            TwoHandles x = s.fine("   asks  2  ;  person  08  1  ;  person  80  4  ;  feigns  0  9  ;  kin  0  1  ;"
                    + "  door  7  8  9  1  ;  door  6  5  4  ;  gap  3  ;  day  77  ;  slate  10  ;  ");
            int[] told = {2, 2, 2, 3, 77, 1, 2};
            for (int what = 0; what < told.length; what++) {
                s.due("told " + what, x.told(what), told[what]);
            }
            s.due("what 1 thinks", x.thinks(1, 0), 8);
            s.due("the door's question", x.door(0, 3), 1);
            s.due("and none", x.door(1, 3), -1);
            s.fine("asks 1; ");
            s.fine(" asks 1;" + times(300, " "));
        });
        s.of(PART, "blanks (32)", () -> {
            for (char other : new char[] {0, 9, 10, 13, 31, 33, 127, 128, 160, 255}) {
                s.fault(1, "^" + other + "asks 1;");
                s.fault(1, "asks^" + other + "1;");
                s.fault(1, "asks 1^" + other + ";");
                s.fault(1, "asks 1;^" + other);
                s.fault(1, "asks 1;gap 4;^" + other + "gap 4;");
                s.fault(1, "asks 1;gap^" + other + "4;");
            }
        });
    }

    private static void whatCannotStand() {
        s.of(PART, "1 what can't stand there", () -> {
            s.fault(1, "^1;");
            s.fault(1, "asks ^x;");
            s.fault(1, "asks ^asks 1;");
            s.fault(1, "asks ^;");
            s.fault(1, "asks 1 ^1;");
            s.fault(1, "asks 1;^4;");
            s.fault(1, "asks 1;gap ^gap 4;");
            s.fault(1, "asks 1;gap 4 ^4;");
            s.fault(1, "asks 1;day 40 ^4;");
            s.fault(1, "asks 1;slate 0 ^0;");
            s.fault(1, "asks 2;person 00^x 1;");
            s.fault(1, "asks 1;person 0 0 ^0;");
            s.fault(1, "asks 1;person 0 0;feigns 0 0 ^0;");
            s.fault(1, "asks 1;person 0 0;person 0 0;kin 0 1 ^0;");
            s.fault(1, "asks 1;^people 0 0;");
            s.fault(1, "asks 1;gap ^+4;");
            s.fault(1, "asks 1;gap ^-4;");
            s.fault(1, "asks 1;gap 4^.0;");
        });
    }

    private static void endsTooEarly() {
        s.of(PART, "at the length, if the text ends too early", () -> {
            s.fault(1, "^");
            s.fault(1, "   ^");
            s.fault(1, "asks^");
            s.fault(1, "asks  ^");
            s.fault(1, "asks 1^");
            s.fault(1, "asks 1  ^");
            s.fault(1, "asks 1;gap^");
            s.fault(1, "asks 1;gap ^");
            s.fault(1, "asks 1;gap 4 ^");
            s.fault(1, "asks 1;day^");
            s.fault(1, "asks 1;day 30^");
            s.fault(1, "asks 1;slate^");
            s.fault(1, "asks 1;slate 0^");
            s.fault(1, "asks 1;person^");
            s.fault(1, "asks 1;person 0^");
            s.fault(1, "asks 1;person 0 ^");
            s.fault(1, "asks 1;person 0 0^");
            s.fault(1, "asks 1;person 0 0;feigns^");
            s.fault(1, "asks 1;person 0 0;feigns 0^");
            s.fault(1, "asks 1;person 0 0;feigns 0 0^");
            s.fault(1, "asks 1;person 0 0;person 0 0;kin^");
            s.fault(1, "asks 1;person 0 0;person 0 0;kin 0^");
            s.fault(1, "asks 1;person 0 0;person 0 0;kin 0 1^");
            s.fault(1, "asks 1;door^");
            s.fault(1, "asks 1;door 1^");
            s.fault(1, "asks 1;door 1 1^");
            s.fault(1, "asks 1;door 1 1 1^");
            s.fault(1, "asks 1;door 1 1 1 ^");
            s.fault(1, "asks 1;door 1 1 1 0^");
        });
        s.of(PART, "at the length", () -> {
            // The bytes behind the first n are not of the text, though they would mend it.
            TwoHandles x = new TwoHandles();
            Check.feed(x, "asks 1;gap 4;");
            s.due("cut ahead of the end", x.town(12), -9);
            s.due("at the length", x.fault(), 12);
            Check.feed(x, "asks 1;day 480;");
            s.due("a number is cut, too", x.town(12), -8);
            s.due("at the number", x.fault(), 11);
            Check.feed(x, "asks 12;");
            s.due("nothing at all", x.town(0), -9);
            s.due("at 0", x.fault(), 0);
        });
    }

    private static void firstWord() {
        s.of(PART, "also another word first, a second asks", () -> {
            String[] others = {"person 0 0;", "feigns 0 0;", "kin 0 1;", "door 1 1 1;", "gap 4;", "day 480;", "slate 0;", "x;", "pers"};
            for (String other : others) {
                s.fault(1, "^" + other);
                s.fault(1, "  ^" + other + "asks 1;");
            }
            s.fault(1, "asks 1;^asks 1;");
            s.fault(1, "asks 1; ^asks");
            s.fault(1, "asks 1;gap 4;^asks 9;");
        });
    }

    private static void wrongNumbers() {
        s.of(PART, "of O and S: too many digits, or too few, or one that is none such: at the number's first byte", () -> {
            s.fault(2, "asks 3;person ^0000 0;");
            s.fault(2, "asks 3;person ^00 0;");
            s.fault(2, "asks 3;person ^009 0;");
            s.fault(2, "asks 3;person   ^090 0;");
            s.fault(2, "asks 3;person ^99 0;");
            s.fault(2, "asks 3;person ^00");
            s.fault(2, "asks 3;person ^0099x");
            s.fault(2, "asks 3;slate ^00000000;");
            s.fault(2, "asks 3;slate ^0123;");
            s.fault(2, "asks 3;slate   ^0000003;");
            s.fault(2, "asks 3;slate ^3");
            s.fault(2, "asks 3;slate ^00000000x");
        });
        s.of(PART, "2 a number that is none such", () -> {
            s.fault(2, "asks   ^0");
            s.fault(2, "asks ^7x");
            s.fault(2, "asks 1;gap ^9 9;");
            s.fault(2, "asks 1;door ^0 0 30 1;");
            s.fault(2, "asks 1;door 1 ^0 30 1;");
            s.fault(2, "asks 1;door 1 1 ^30 1;");
            s.fault(2, "asks 1;door 1 1 1 ^1;");
            s.fault(2, "asks 1;day ^0;");
        });
    }

    private static void tooMany() {
        s.of(PART, "3 a CLAUSE, PERSON or DOOR too many (at its word)", () -> {
            String eight = "asks 1;" + times(8, "person 0 0;");
            String ten = "asks 1;" + times(10, "door 1 1 1;");
            String forty = "asks 1;" + times(39, "gap 4;");
            for (String behind : new String[] {"", " ", " x", "99 9;", " 0 0;"}) {
                s.fault(3, eight + "  ^person" + behind);
                s.fault(3, ten + "  ^door" + behind);
                s.fault(3, forty + "  ^gap" + behind);
            }
            s.fine(eight + "gap 4;day 30;");
            s.fine(ten + "gap 4;day 30;");
            s.fine(forty + "   ");
            for (String clause : new String[] {"person 0 0;", "feigns 0 0;", "kin 0 1;", "door 1 1 1;", "day 30;", "slate 0;"}) {
                s.fault(3, forty + "^" + clause);
            }
            s.due("one place of each is free still", s.fine(eight + ten.substring(7)).told(2), 10);
        });
    }

    private static void whichFault() {
        s.of(PART, "FAULTS, the first from the left", () -> {
            s.fault(2, "asks ^9;asks 1;");
            s.fault(1, "asks 1;^nothing 9;gap 9;");
            s.fault(2, "asks 1;gap ^9;nothing");
            s.fault(2, "asks 1;person ^9 9;");
            s.fault(2, "asks 1;person ^9;");
            s.fault(2, "asks 1;person ^9 x;");
            s.fault(1, "asks 1;person ^x 9;");
            s.fault(2, "asks 1;person 0 ^9 9;");
            s.fault(2, "asks 1;feigns ^0;");
            s.fault(2, "asks 1;feigns ^0 x;");
            s.fault(2, "asks 1;feigns ^0 10;");
            s.fault(1, "asks 1;feigns ^x 10;");
            s.fault(2, "asks 1;kin ^0;");
            s.fault(2, "asks 1;kin ^0 x;");
            s.fault(1, "asks 1;kin ^x 9;");
            s.fault(2, "asks 1;person 0 0;kin 0 ^0 x;");
            s.fault(2, "asks 1;door ^0;");
            s.fault(2, "asks 1;door ^0 x;");
            s.fault(2, "asks 1;door 1 ^0;");
            s.fault(2, "asks 1;door 1 ^0 x;");
            s.fault(2, "asks 1;door 1 1 ^30 x;");
            s.fault(2, "asks 1;door 1 1 ^30 1 1;");
            s.fault(2, "asks 1;door 1 1 1 ^1 x;");
            s.fault(1, "asks 1;door ^x 0 30;");
            s.fault(2, "asks 1;gap ^0 x;");
            s.fault(2, "asks 1;day ^0 x;");
            s.fault(2, "asks 1;slate ^1 x;");
            s.fault(1, "asks 1;slate ^x 1;");
            s.fault(2, "asks 1;" + times(8, "person 0 0;") + "gap ^9;person 0 0;");
            s.fault(3, "asks 1;" + times(8, "person 0 0;") + "^person 9 9;gap 9;");
            s.fault(2, "asks 1;" + times(38, "gap 4;") + "gap ^9;gap 4;");
            s.fault(1, "asks 1;" + times(38, "gap 4;") + "gap 4 ^gap 4;");
        });
        s.of(PART, "of one the least", () -> {
            String forty = "asks 1;" + times(39, "gap 4;");
            s.fault(1, forty + "^gaps 4;");
            s.fault(1, forty + "^asks 1;");
            s.fault(1, forty + "^;");
            s.fault(1, forty + "^7;");
            String both = "asks 1;" + times(8, "person 0 0;") + times(31, "gap 4;");
            s.fault(3, both + "^person 0 0;");
            s.fault(1, both + "^persons 0 0;");
        });
    }
}
