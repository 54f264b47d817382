import java.util.function.Consumer;
import java.util.function.ToIntFunction;

/**
 * What is refused, and what only asks, changes nothing: in an empty object, in the midst of a knot, with all that is
 * kept full, and without CHAIRS. Each call's answer is looked at, too.
 */
public final class RefusedTest {
    private static final int LEAST = Integer.MIN_VALUE;
    private static final int GREATEST = Integer.MAX_VALUE;
    private static final String NICHE = "land 5 2;wall 0 1;wall 1 1;wall 3 1;wall 4 1;";
    private static final String NARROW = NICHE + "wall 2 1;";
    /** a and b meet, c is THERE in MINUTE 0, d is not out for long. */
    private static final String FOUR = NICHE + "chair a 0 0 3 1 4 0;chair b 4 0 5 2 0 0;chair c 2 0 0 9 2 0;"
        + "chair d 2 1 1 1 0 0;start d 90;sick d;law rank load;";

    public static void main(String[] args) {
        inANewObject();
        withoutChairs();
        inAKnot();
        questions();
        nothingIsKept();
        full();
        thrown();
        faultsOfAlleys();
        faultsOfPlans();
        faultsOfSentences();
        untiedThatCannotBe();
        judgeThatDoesNothing();
        Check.close("RefusedTest");
    }

    private static void knot(Check k) {
        k.alleys(FOUR);
        k.x.on(3);
        k.plan("b e;b e;");
        k.sentence("rank>2 or there");
        k.x.image(0);
        k.x.untied();
        k.x.judge(1);
        k.x.lane(2, 2);
        k.x.on(2);
        k.x.judge(0);
        k.plan("a e;c n;");
        k.write("land 2 2;wall 0 0;chair a 1 0 1 1 0 1;");
    }

    /** 8 acts, 940 bytes, more than 60 MEETINGS, both images, and no MINUTE left. */
    private static void fullUp(Check k) {
        k.alleys(NARROW + "chair a 0 0 3 1 4 0;chair b 4 0 5 2 0 0;law rank;");
        k.plan("b e;b e;");
        k.sentence("waits>99");
        k.x.on(1);
        k.x.image(1);
        k.x.untied();
        k.x.on(49);
        k.x.image(0);
        k.x.on(100);
        k.x.on(100);
        k.x.on(100);
        k.x.on(100);
        k.x.lane(3, 0);
        k.x.lane(3, -1);
        k.x.judge(1);
        k.x.on(50);
        k.write("land 2 2;" + Check.blanks(931));
    }

    private static void noChairs(Check k) {
        k.alleys("land 3 2;wall 1 1;lane 0 0 e;");
        k.sentence("sick");
        k.x.on(7);
        k.x.lane(1, 2);
        k.x.image(1);
    }

    private static Consumer<Check> due(String call, int want, ToIntFunction<ChairAlley> asked) {
        return k -> k.due(call, asked.applyAsInt(k.x), want);
    }

    private static void stays(Twins twins, String call, int want, ToIntFunction<ChairAlley> asked) {
        twins.stay(call, due(call, want, asked));
    }

    /** Whatever is so, these numbers are none. */
    private static void numbersThatAreNone(Twins twins) {
        for (int n : new int[] {LEAST, -2, -1, 0, 101, GREATEST}) {
            stays(twins, "on(" + n + ")", -1, x -> x.on(n));
        }
        for (int n : new int[] {LEAST, -1, 0, 31, GREATEST}) {
            stays(twins, "invited(" + n + ")", -1, x -> x.invited(n));
        }
        for (int n : new int[] {LEAST, -1, 0, 41, GREATEST}) {
            stays(twins, "odds(" + n + ", 1)", -1, x -> x.odds(n, 1));
        }
        for (int n : new int[] {LEAST, -1, 0, 21, GREATEST}) {
            stays(twins, "torches(0, 1, " + n + ", -1)", -1, x -> x.torches(0, 1, n, -1));
        }
        for (int n : new int[] {LEAST, -1, 941, GREATEST}) {
            stays(twins, "end(" + n + ")", 0, x -> x.end(n) ? 1 : 0);
        }
        for (int c : new int[] {LEAST, -2, -1, 8, GREATEST}) {
            stays(twins, "next(" + c + ")", -1, x -> x.next(c));
            stays(twins, "order(" + c + ")", -1, x -> x.order(c));
            stays(twins, "lent(" + c + ", 0)", -1001, x -> x.lent(c, 0));
            stays(twins, "lent(0, " + c + ")", -1001, x -> x.lent(0, c));
            stays(twins, "torches(" + c + ", 1, 1, -1)", -1, x -> x.torches(c, 1, 1, -1));
            stays(twins, "torches(0, " + c + ", 1, -1)", -1, x -> x.torches(0, c, 1, -1));
            stays(twins, "voted(" + c + ")", -1, x -> x.voted(c));
            stays(twins, "when(" + c + ")", -1, x -> x.when(c));
        }
        for (int n : new int[] {LEAST, -1, 2, GREATEST}) {
            stays(twins, "judge(" + n + ")", -2, x -> x.judge(n));
            stays(twins, "image(" + n + ")", 0, x -> x.image(n) ? 1 : 0);
            stays(twins, "restore(" + n + ")", 0, x -> x.restore(n) ? 1 : 0);
        }
        for (int n : new int[] {LEAST, -2, 8, GREATEST}) {
            stays(twins, "said(" + n + ")", -1, x -> x.said(n));
        }
        for (int n : new int[] {LEAST, -1, 9, GREATEST}) {
            stays(twins, "count(" + n + ")", -1, x -> x.count(n));
            stays(twins, "now(" + n + ")", -1, x -> x.now(n));
            stays(twins, "judged(" + n + ")", -1, x -> x.judged(n));
            stays(twins, "met(0, " + n + ")", -1, x -> x.met(0, n));
        }
        for (int n : new int[] {LEAST, -1, 60, GREATEST}) {
            stays(twins, "met(" + n + ", 0)", -1, x -> x.met(n, 0));
            stays(twins, "step(" + n + ")", -1, x -> x.step(n));
        }
        for (int at : new int[] {LEAST, -1, 20, 100, GREATEST}) {
            stays(twins, "lane(" + at + ", 0)", 0, x -> x.lane(at, 0) ? 1 : 0);
            stays(twins, "way(" + at + ", 0)", -1, x -> x.way(at, 0));
            stays(twins, "way(0, " + at + ")", -1, x -> x.way(0, at));
        }
        for (int dir : new int[] {LEAST, -2, 4, GREATEST}) {
            stays(twins, "lane(0, " + dir + ")", 0, x -> x.lane(0, dir) ? 1 : 0);
        }
    }

    private static void inANewObject() {
        Twins twins = new Twins("1", k -> { });
        numbersThatAreNone(twins);
        refusedWithoutChairs(twins);
        stays(twins, "lane(0, 0)", 0, x -> x.lane(0, 0) ? 1 : 0);
        stays(twins, "way(0, 0)", -1, x -> x.way(0, 0));
        stays(twins, "undo()", -1, x -> x.undo());
        stays(twins, "restore(0)", 0, x -> x.restore(0) ? 1 : 0);
        stays(twins, "restore(1)", 0, x -> x.restore(1) ? 1 : 0);
        stays(twins, "said(-1)", -1, x -> x.said(-1));
        stays(twins, "end(1)", 0, x -> x.end(1) ? 1 : 0);
        stays(twins, "step(0)", -1, x -> x.step(0));
        stays(twins, "judged(0)", -1, x -> x.judged(0));
    }

    private static void refusedWithoutChairs(Twins twins) {
        stays(twins, "next(0)", -1, x -> x.next(0));
        stays(twins, "order(0)", -1, x -> x.order(0));
        stays(twins, "last()", -1, x -> x.last());
        stays(twins, "latest()", -1, x -> x.latest());
        stays(twins, "oneWay()", -1, x -> x.oneWay());
        stays(twins, "invited(1)", -1, x -> x.invited(1));
        stays(twins, "invited(30)", -1, x -> x.invited(30));
        stays(twins, "began()", 0, x -> x.began());
        stays(twins, "lent(0, 0)", -1001, x -> x.lent(0, 0));
        stays(twins, "torches(0, 1, 1, -1)", -1, x -> x.torches(0, 1, 1, -1));
        stays(twins, "voted(0)", -1, x -> x.voted(0));
        stays(twins, "when(0)", -1, x -> x.when(0));
        stays(twins, "drawn(1)", 0, x -> x.drawn(1) ? 1 : 0);
        stays(twins, "odds(1, 1)", -1, x -> x.odds(1, 1));
        stays(twins, "odds(40, 1)", -1, x -> x.odds(40, 1));
        stays(twins, "met(0, 0)", -1, x -> x.met(0, 0));
        stays(twins, "untied(), which has no STEPS", 0, x -> x.untied());
        stays(twins, "said(0)", -1, x -> x.said(0));
    }

    private static void withoutChairs() {
        Twins twins = new Twins("11 to 28", RefusedTest::noChairs);
        numbersThatAreNone(twins);
        refusedWithoutChairs(twins);
        stays(twins, "restore(0)", 0, x -> x.restore(0) ? 1 : 0);
        stays(twins, "said(-1)", 0, x -> x.said(-1));
    }

    private static void inAKnot() {
        Twins twins = new Twins("3 to 36", RefusedTest::knot);
        numbersThatAreNone(twins);
        stays(twins, "end(39)", 0, x -> x.end(39) ? 1 : 0);
        stays(twins, "end(38), which is so already", 1, x -> x.end(38) ? 1 : 0);
        for (int c : new int[] {4, 5, 7}) {
            stays(twins, "next(" + c + ")", -1, x -> x.next(c));
            stays(twins, "order(" + c + ")", -1, x -> x.order(c));
            stays(twins, "voted(" + c + ")", -1, x -> x.voted(c));
            stays(twins, "when(" + c + ")", -1, x -> x.when(c));
            stays(twins, "lent(" + c + ", 0)", -1001, x -> x.lent(c, 0));
            stays(twins, "lent(0, " + c + ")", -1001, x -> x.lent(0, c));
            stays(twins, "torches(0, " + c + ", 1, 0)", -1, x -> x.torches(0, c, 1, 0));
        }
        stays(twins, "next(2), THERE", -1, x -> x.next(2));
        stays(twins, "next(3), not out", -1, x -> x.next(3));
        stays(twins, "when(2), THERE", -1, x -> x.when(2));
        stays(twins, "lent(2, 0), THERE", -1001, x -> x.lent(2, 0));
        stays(twins, "torches(0, 2, 1, -1), THERE", -1, x -> x.torches(0, 2, 1, -1));
        stays(twins, "torches(3, 0, 1, -1), not out", -1, x -> x.torches(3, 0, 1, -1));
        stays(twins, "torches(1, 1, 1, -1), one alone", -1, x -> x.torches(1, 1, 1, -1));
        stays(twins, "torches(0, 1, 1, -2)", -1, x -> x.torches(0, 1, 1, -2));
        stays(twins, "torches(0, 1, 1, 4)", -1, x -> x.torches(0, 1, 1, 4));
        stays(twins, "lane(10, 0), a wall", 0, x -> x.lane(10, 0) ? 1 : 0);
        stays(twins, "lane(10, -1), a wall", 0, x -> x.lane(10, -1) ? 1 : 0);
        stays(twins, "lane(5, 0)", 0, x -> x.lane(5, 0) ? 1 : 0);
        stays(twins, "lane(2, 2), so already", 0, x -> x.lane(2, 2) ? 1 : 0);
        stays(twins, "lane(3, -1), so already", 0, x -> x.lane(3, -1) ? 1 : 0);
        stays(twins, "restore(1), nothing kept", 0, x -> x.restore(1) ? 1 : 0);
        stays(twins, "way(10, 0)", -1, x -> x.way(10, 0));
        stays(twins, "met(59, 0)", -1, x -> x.met(59, 0));
        stays(twins, "now(6)", -1, x -> x.now(6));
        stays(twins, "judged(3)", -1, x -> x.judged(3));
        stays(twins, "met(0, 5)", -1, x -> x.met(0, 5));
    }

    /** What only asks: "all staying as it is". */
    private static void questions() {
        Twins twins = new Twins("8 to 33", RefusedTest::knot);
        twins.stay("questions of one CHAIR", k -> {
            for (int c = 0; c < 4; c++) {
                k.x.next(c);
                k.x.when(c);
                k.x.voted(c);
                k.x.lent(c, 3 - c);
                k.x.torches(c, (c + 1) % 4, 1 + c, -1);
            }
        });
        twins.stay("oneWay()", k -> k.x.oneWay());
        twins.stay("invited(2)", k -> k.x.invited(2));
        twins.stay("began()", k -> k.x.began());
        twins.stay("odds(40, 5)", k -> k.x.odds(40, 5));
        twins.stay("last(), latest(), order(0), way(0, 4)", k -> {
            k.x.last();
            k.x.latest();
            k.x.order(0);
            k.x.way(0, 4);
        });
        twins.stay("said(-1)", k -> k.due("said(-1)", k.x.said(-1), 3));
        Twins more = new Twins("16", RefusedTest::knot).withoutSteps();
        more.stay("untied()", k -> k.x.untied());
        Twins plans = new Twins("30", RefusedTest::knot).withoutJudged();
        plans.stay("judge(0)", k -> k.due("judge(0)", k.x.judge(0), 1));
    }

    private static void nothingIsKept() {
        Twins twins = new Twins("14, 35", k -> {
            k.alleys(FOUR);
            k.x.on(5);
            k.x.undo();
        });
        stays(twins, "undo(), none is", -1, x -> x.undo());
        stays(twins, "restore(0)", 0, x -> x.restore(0) ? 1 : 0);
        stays(twins, "restore(1)", 0, x -> x.restore(1) ? 1 : 0);
        stays(twins, "said(-1)", -1, x -> x.said(-1));
        stays(twins, "said(0)", -1, x -> x.said(0));
        stays(twins, "step(0)", -1, x -> x.step(0));
        for (int what = 0; what < 3; what++) {
            int asked = what;
            stays(twins, "judged(" + what + ")", -1, x -> x.judged(asked));
        }
    }

    private static void full() {
        Twins twins = new Twins("2, 11 to 14", RefusedTest::fullUp);
        numbersThatAreNone(twins);
        stays(twins, "feed of a full tape", -1, x -> x.feed(-1, -1, -1, -1, -1));
        stays(twins, "on(1) behind MINUTE 499", 0, x -> x.on(1));
        stays(twins, "on(100) behind MINUTE 499", 0, x -> x.on(100));
        stays(twins, "now(0)", 500, x -> x.now(0));
        stays(twins, "last()", 500, x -> x.last());
        stays(twins, "when(0)", 500, x -> x.when(0));
        stays(twins, "lent(0, 1)", 0, x -> x.lent(0, 1));
        stays(twins, "voted(1)", 0, x -> x.voted(1));
        stays(twins, "torches(0, 1, 20, -1)", 4, x -> x.torches(0, 1, 20, -1));
        stays(twins, "oneWay()", -1, x -> x.oneWay());
        Twins tape = new Twins("2", k -> {
            fullUp(k);
            k.x.end(921);
        });
        stays(tape, "feed behind 921 bytes", -1, x -> x.feed(-1, -1, -1, -1, -1));
        stays(tape, "end(922)", 0, x -> x.end(922) ? 1 : 0);
    }

    /** "A call that throws changes nothing." */
    private static void thrown() {
        Consumer<Check> throwing = k -> {
            for (int n : new int[] {LEAST, -1, 8, 100, GREATEST}) {
                k.dueChair(n, 0, Check.THROWN);
                k.dueCell(n, 0, Check.THROWN);
            }
            for (int n : new int[] {LEAST, -1, 10, GREATEST}) {
                k.dueChair(0, n, Check.THROWN);
                k.dueCell(0, n, Check.THROWN);
            }
        };
        new Twins("6, 7", k -> { }).stay("what throws", throwing);
        new Twins("6, 7", RefusedTest::noChairs).stay("what throws", throwing);
        new Twins("6, 7", RefusedTest::knot).stay("what throws", throwing);
        new Twins("6, 7", RefusedTest::fullUp).stay("what throws", throwing);
    }

    /** "-1 less the place of a FAULT: they stay", but for the tape, which is empty, and fault(). */
    private static void faultsOfAlleys() {
        String[] texts = {"x", "land", "land 3 3;wall 3 0;", "land 3 3;land 3 3;", "land 2 2;chair z 0 0 1 1 1 1;sick q;",
            "land 9 9;wall 8 8;stairs 8 8;wide 7 7;lane 1 1 e;chair z 0 0 9 9 8 8;", "law come;law", "land 2 2;" + "x"};
        int[] kinds = {1, 1, 2, 3, 3, 5, 3, 1};
        for (int i = 0; i < texts.length; i++) {
            String text = texts[i];
            int kind = kinds[i];
            new Twins("4", RefusedTest::knot).withoutFault().differBy("alleys() of '" + text + "'", k -> {
                k.x.end(0);
                k.due("alleys() of '" + text + "' is below 0", k.alleys(text) < 0, true);
                k.due("fault()", k.x.fault(), kind);
                k.due("count(8)", k.x.count(8), 0);
            }, k -> k.x.end(0));
        }
    }

    private static void faultsOfPlans() {
        String[] texts = {"x n;", "a n;b", "a n;b n;d n", "a", ";", "a n;".repeat(41)};
        int[] kinds = {3, 1, 1, 1, 1, 4};
        for (int i = 0; i < texts.length; i++) {
            String text = texts[i];
            int kind = kinds[i];
            new Twins("29", RefusedTest::knot).withoutFault().differBy("plan() of '" + text + "'", k -> {
                k.x.end(0);
                k.due("plan() of '" + text + "' is below 0", k.plan(text) < 0, true);
                k.due("fault()", k.x.fault(), kind);
                k.due("count(8)", k.x.count(8), 0);
            }, k -> k.x.end(0));
        }
    }

    private static void faultsOfSentences() {
        String[] texts = {"", "x", "sick or", "not not sick)", "ahead x", "((((((((sick))))))))", "rank<1000"};
        int[] kinds = {1, 1, 1, 1, 3, 4, 1};
        for (int i = 0; i < texts.length; i++) {
            String text = texts[i];
            int kind = kinds[i];
            new Twins("32", RefusedTest::knot).withoutFault().differBy("sentence() of '" + text + "'", k -> {
                k.x.end(0);
                k.due("sentence() of '" + text + "' is below 0", k.sentence(text) < 0, true);
                k.due("fault()", k.x.fault(), kind);
                k.due("count(8)", k.x.count(8), 0);
            }, k -> k.x.end(0));
        }
    }

    /** step() tells of "the latest untied() that was 0 or more": NONE and -2 leave it. */
    private static void untiedThatCannotBe() {
        Consumer<Check> narrow = k -> {
            knot(k);
            k.x.end(0);
            k.alleys(NARROW + "chair a 0 0 3 1 4 0;chair b 4 0 5 2 0 0;");
            k.x.on(1);
            k.due("step(0), as told last", k.x.step(0) >= 0, true);
        };
        stays(new Twins("16, 17", narrow), "untied() that can't be", -1, x -> x.untied());
        Consumer<Check> great = k -> {
            knot(k);
            k.x.end(0);
            k.alleys("land 10 4;chair a 0 0 3 1 4 0;");
            k.x.on(1);
            k.due("step(0), as told last", k.x.step(0) >= 0, true);
        };
        stays(new Twins("16, 17", great), "untied() of 40 CELLS", -2, x -> x.untied());
    }

    /** A PLAN of which the first STEP is WRONG, or that has none, is not lived: nothing is changed but judged(). */
    private static void judgeThatDoesNothing() {
        Twins wrong = new Twins("14, 30", k -> {
            knot(k);
            k.x.end(0);
            k.plan("c n;a w;");
        }).withoutJudged();
        stays(wrong, "judge(1), WRONG at once", 0, x -> x.judge(1));
        Twins empty = new Twins("14, 30", k -> {
            knot(k);
            k.x.end(0);
            k.plan("");
        }).withoutJudged();
        stays(empty, "judge(1) of no STEP", -1, x -> x.judge(1));
    }
}
