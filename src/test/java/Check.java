import java.util.NoSuchElementException;

/** An object under test that is written to in texts, and what was not as due of it. */
final class Check {
    static int wrong = 0;
    static int checked = 0;
    static final int THROWN = Integer.MIN_VALUE;

    final ChairAlley x = new ChairAlley();
    private final String promise;

    Check(String promise) {
        this.promise = promise;
    }

    /** An object with these ALLEYS. */
    Check(String promise, String alleys) {
        this.promise = promise;
        write(alleys);
        due("alleys() of a good text is not below 0", x.alleys() < 0 ? 1 : 0, 0);
    }

    void due(String call, long got, long want) {
        checked++;
        if (got != want) {
            wrong++;
            System.out.println("promise " + promise + ": " + call + " answered " + got + ", due is " + want);
        }
    }

    void due(String call, boolean got, boolean want) {
        due(call, got ? 1 : 0, want ? 1 : 0);
    }

    void write(String text) {
        int length = text.length();
        for (int i = 0; i < length; i += 20) {
            x.feed(four(text, i), four(text, i + 4), four(text, i + 8), four(text, i + 12), four(text, i + 16));
        }
        x.end(length);
    }

    private static int four(String text, int at) {
        int v = 0;
        for (int i = at; i < at + 4; i++) {
            v = v << 8 | (i < text.length() ? text.charAt(i) & 255 : 0);
        }
        return v;
    }

    int alleys(String text) {
        write(text);
        return x.alleys();
    }

    int plan(String text) {
        write(text);
        return x.plan();
    }

    int sentence(String text) {
        write(text);
        return x.sentence();
    }

    int chair(int c, int what) {
        try {
            return x.chair(c, what);
        } catch (NoSuchElementException e) {
            return THROWN;
        }
    }

    int cell(int at, int what) {
        try {
            return x.cell(at, what);
        } catch (NoSuchElementException e) {
            return THROWN;
        }
    }

    void dueChair(int c, int what, int want) {
        due("chair(" + c + ", " + what + ")", chair(c, what), want);
    }

    void dueCell(int at, int what, int want) {
        due("cell(" + at + ", " + what + ")", cell(at, what), want);
    }

    void dueNow(int... want) {
        for (int what = 0; what < want.length; what++) {
            due("now(" + what + ")", x.now(what), want[what]);
        }
    }

    void dueMet(int k, int... want) {
        for (int what = 0; what < want.length; what++) {
            due("met(" + k + ", " + what + ")", x.met(k, what), want[what]);
        }
    }

    void dueOrder(int... want) {
        for (int k = 0; k < want.length; k++) {
            due("order(" + k + ")", x.order(k), want[k]);
        }
    }

    /** What alleys(), plan() or sentence() answered was a FAULT at this place, of this kind. */
    void dueFault(String text, int answer, int place, int kind) {
        due("the place of the FAULT of '" + text + "'", -1 - answer, place);
        due("the kind of the FAULT of '" + text + "'", x.fault(), kind);
    }

    static String blanks(int n) {
        return " ".repeat(n);
    }

    static void close(String name) {
        System.out.println(name + ": " + checked + " answers, " + wrong + " of them not as due");
        if (wrong != 0) {
            System.exit(1);
        }
    }
}
