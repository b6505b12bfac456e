/** What the tests have in common: telling a town, and holding answers against what is due. */
final class Check {
    private int wrong = 0;
    private int right = 0;

    void due(String what, long got, long want) {
        if (got == want) {
            right++;
        } else {
            wrong++;
            System.out.println(what + " answered " + got + ", due is " + want);
        }
    }

    void holds(String what, boolean held) {
        due(what, held ? 1 : 0, 1);
    }

    /** The very class: what the machine throws by itself is often a class below the one that is due. */
    void dueThrow(String what, Class<? extends RuntimeException> want, Runnable call) {
        Class<?> got = null;
        try {
            call.run();
        } catch (RuntimeException e) {
            got = e.getClass();
        }
        if (got == want) {
            right++;
        } else {
            wrong++;
            System.out.println(what + " threw " + got + ", due is " + want);
        }
    }

    void dueIllegalArgument(String what, Runnable call) {
        dueThrow(what, IllegalArgumentException.class, call);
    }

    void dueNoPerson(String what, Runnable call) {
        dueThrow(what, java.util.NoSuchElementException.class, call);
    }

    void dueNoDoor(String what, Runnable call) {
        dueThrow(what, IndexOutOfBoundsException.class, call);
    }

    /** Prints the sum, and leaves with 1 if an answer was wrong. */
    void end(String test) {
        System.out.println(test + ": " + right + " right, " + wrong + " wrong");
        if (wrong != 0) {
            System.exit(1);
        }
    }

    /** Puts a text on the tape, with zero bytes behind it up to twenty. */
    static void feed(TwoHandles x, String text) {
        for (int at = 0; at < text.length(); at += 20) {
            x.feed(word(text, at), word(text, at + 4), word(text, at + 8), word(text, at + 12), word(text, at + 16));
        }
    }

    private static int word(String text, int at) {
        int number = 0;
        for (int i = at; i < at + 4; i++) {
            number = number << 8 | (i < text.length() ? text.charAt(i) & 255 : 0);
        }
        return number;
    }

    /** What town() answers to a text. */
    static int tell(TwoHandles x, String text) {
        feed(x, text);
        return x.town(text.length());
    }

    /** An object with a town that must be without a fault. */
    static TwoHandles in(String text) {
        TwoHandles x = new TwoHandles();
        if (tell(x, text) < 0) {
            throw new AssertionError("fault at " + x.fault() + " of " + text);
        }
        return x;
    }
}
