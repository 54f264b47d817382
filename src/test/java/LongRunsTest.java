import java.util.ArrayList;
import java.util.Arrays;
import java.util.Collections;
import java.util.List;
import java.util.Random;

/**
 * Runs that go through several promises one behind the other, up to the 512 calls for which an object is used. What is
 * asked, undone, kept and begun anew in them is held against the object's own answers ahead of it, or those of another
 * object that did not live it: so no model of the document is needed.
 */
public final class LongRunsTest {
    private static final List<String> NOTHING = Collections.emptyList();
    /** What calls told last, which neither an image keeps nor new ALLEYS end. */
    private static final List<String> TOLD_LAST = Arrays.asList("step", "judged");
    private static final List<int[]> ALL = all();
    private static final List<int[]> FEW = few();
    /** What only asks. untied() and judge(0) are looked at by themselves, for they change step() and judged(). */
    private static final List<String> ASKS = Arrays.asList("fault", "chair", "cell", "way", "next", "order", "now",
        "met", "step", "oneWay", "last", "invited", "began", "lent", "torches", "voted", "when", "latest", "odds",
        "judged", "said", "count");

    public static void main(String[] args) {
        aLongDay();
        newAlleysBehindAFullDay();
        imagesOfTwoAlleys();
        for (int seed = 0; seed < 800; seed++) {
            asksLeftOut(seed);
            undone(seed);
            undoneOneByOne(seed);
            restored(seed);
            newAlleys(seed);
            drawnAnew(seed);
            faultsBetween(seed);
        }
        for (int seed = 0; seed < 150; seed++) {
            aheadAndBehind(seed);
        }
        Check.close("LongRunsTest");
    }

    private static void add(List<int[]> rows, String name, int... arguments) {
        rows.add(Calls.row(name, arguments));
    }

    /** All that can be asked, each with some numbers. */
    private static List<int[]> all() {
        List<int[]> rows = new ArrayList<>();
        for (int what = 0; what < 9; what++) {
            add(rows, "count", what);
        }
        for (int what = 0; what < 6; what++) {
            add(rows, "now", what);
        }
        for (int c = 0; c < 8; c++) {
            for (int what : new int[] {0, 4, 6, 8, 9}) {
                add(rows, "chair", c, what);
            }
            add(rows, "order", c);
            add(rows, "next", c);
            add(rows, "when", c);
        }
        for (int what : new int[] {1, 2, 3, 5, 7}) {
            add(rows, "chair", 0, what);
            add(rows, "chair", 1, what);
        }
        for (int k : new int[] {0, 1, 2, 59}) {
            for (int what = 0; what < 5; what++) {
                add(rows, "met", k, what);
            }
        }
        for (int at : new int[] {0, 1, 2, 10, 11, 12, 21}) {
            add(rows, "cell", at, 3);
            add(rows, "cell", at, 4);
            add(rows, "way", at, 13);
        }
        for (String name : new String[] {"last", "latest", "began", "oneWay", "fault"}) {
            add(rows, name);
        }
        for (int k = -1; k < 3; k++) {
            add(rows, "said", k);
            add(rows, "step", k);
            add(rows, "judged", k);
            add(rows, "voted", k);
            add(rows, "torches", 0, 1, 2, k);
        }
        add(rows, "lent", 0, 1);
        add(rows, "lent", 1, 0);
        add(rows, "invited", 2);
        add(rows, "odds", 5, 77);
        return rows;
    }

    private static List<int[]> few() {
        List<int[]> rows = new ArrayList<>();
        for (int what = 0; what < 6; what++) {
            add(rows, "now", what);
        }
        add(rows, "count", 6);
        for (int c = 0; c < 4; c++) {
            for (int what : new int[] {0, 4, 8}) {
                add(rows, "chair", c, what);
            }
        }
        add(rows, "met", 0, 0);
        add(rows, "last");
        return rows;
    }

    /** Good ALLEYS, and any calls and acts behind them. */
    private static Calls lived(int seed, int most) {
        Calls calls = new Calls(seed);
        calls.goodAlleys();
        for (int i = 0; i < most && calls.rows.size() < most - 60; i++) {
            if (i % 2 == 0) {
                calls.addAct();
            } else {
                calls.addAny();
            }
        }
        return calls;
    }

    /** 512 calls, and the same with about half of the questions left out: the others are answered alike. */
    private static void asksLeftOut(int seed) {
        Calls calls = new Calls(seed);
        for (int i = 0; i < Calls.MOST && !calls.isFull(); i++) {
            if (i % 40 == 0) {
                calls.addCounsel();
            }
            calls.addAny();
            calls.addAct();
        }
        List<Long> want = new Run("all").playAll(calls.rows);
        Random random = new Random(seed);
        List<int[]> rows = new ArrayList<>();
        List<Long> kept = new ArrayList<>();
        for (int i = 0; i < calls.rows.size(); i++) {
            boolean asks = ASKS.contains(Face.NAMES[calls.rows.get(i)[0]]);
            if (!asks || random.nextBoolean()) {
                rows.add(calls.rows.get(i));
                kept.add(want.get(i));
            }
        }
        new Run("all").dueLike("run " + seed + " with questions left out", kept, rows, NOTHING);
    }

    /** All others are asked, then one call that only asks, then all others again. */
    private static void aheadAndBehind(int seed) {
        List<int[]> prefix = lived(seed, 170).rows;
        Calls asked = new Calls(seed);
        for (String name : ASKS) {
            asked.addCall(name);
        }
        asked.add("untied");
        asked.add("judge", 0);
        asked.add("judge", 2);
        for (int[] ask : asked.rows) {
            Run run = new Run("all");
            run.playAll(prefix);
            List<Long> ahead = run.playAll(ALL);
            run.play(ask);
            String name = Face.NAMES[ask[0]];
            List<String> without = name.equals("untied") ? Arrays.asList("step")
                : name.equals("judge") ? Arrays.asList("judged") : NOTHING;
            run.dueLike("run " + seed + ", behind " + Calls.told(ask), ahead, ALL, without);
        }
    }

    /** An act that was done and undone: all is as it was ahead of it. One that was not done has changed nothing. */
    private static void undone(int seed) {
        List<int[]> prefix = lived(seed, 170).rows;
        int kept = 0;
        Run other = new Run("14");
        other.playAll(prefix);
        for (int i = 0; i < 9 && other.call("undo") >= 0; i++) {
            kept++;
        }
        Run run = new Run("14");
        run.playAll(prefix);
        List<Long> ahead = run.playAll(ALL);
        Random random = new Random(seed);
        boolean isDone;
        switch (seed % 4) {
            case 0: isDone = run.call("on", 1 + random.nextInt(100)) > 0; break;
            case 1: isDone = run.call("lane", random.nextInt(4), random.nextInt(5) - 1) == 1; break;
            case 2: isDone = run.call("drawn", random.nextInt()) == 1; break;
            default:
                run.call("judge", 1);
                isDone = run.call("judged", 1) > 0;
                break;
        }
        if (isDone) {
            run.due(Math.min(kept, 7), "undo");
        }
        run.dueLike("run " + seed + ", behind undo", ahead, ALL, seed % 4 == 3 ? Arrays.asList("judged") : NOTHING);
    }

    /** Nine acts or more, and what was ahead of each of the last eight comes back, the latest first. */
    private static void undoneOneByOne(int seed) {
        Calls calls = new Calls(seed);
        calls.goodAlleys();
        Run run = new Run("14");
        run.playAll(calls.rows);
        Random random = new Random(seed);
        List<List<Long>> ahead = new ArrayList<>();
        for (int i = 0; i < 30 && ahead.size() < 9; i++) {
            List<Long> seen = run.playAll(FEW);
            boolean isDone = random.nextInt(3) != 0 ? run.call("on", 1 + random.nextInt(3)) > 0
                : random.nextInt(4) != 0 ? run.call("lane", random.nextInt(3), random.nextInt(4)) == 1
                : run.call("drawn", random.nextInt(100)) == 1;
            if (isDone) {
                ahead.add(seen);
            }
            if (run.left() < 9 * (FEW.size() + 3)) {
                break;
            }
        }
        int acts = Math.min(ahead.size(), 8);
        for (int i = 0; i < acts; i++) {
            run.due(acts - 1 - i, "undo");
            run.dueLike("run " + seed + ", undo " + i, ahead.get(ahead.size() - 1 - i), FEW, NOTHING);
        }
        run.due(-1, "undo");
    }

    /** Whatever comes between image and restore, new ALLEYS, too: all is as kept, and nothing can be undone. */
    private static void restored(int seed) {
        List<int[]> prefix = lived(seed, 130).rows;
        int place = seed % 2;
        Calls between = new Calls(seed + 1000);
        for (int i = 0; i < 50 && between.rows.size() < 40; i++) {
            between.addAct();
            if (i % 8 == 3) {
                between.addAny();
            }
        }
        String here = Calls.told(Calls.row("image", place));
        Run run = new Run("34, 35");
        run.playAll(prefix);
        List<Long> ahead = run.playAll(ALL);
        run.due(1, "image", place);
        for (int[] row : between.rows) {
            if (!Calls.told(row).equals(here) && run.left() > ALL.size() + 10) {
                run.play(row);
            }
        }
        long tape = run.call("count", 8);
        long fault = run.call("fault");
        run.due(1, "restore", place);
        run.due(-1, "undo");
        run.due(tape, "count", 8);
        run.due(fault, "fault");
        run.dueLike("run " + seed + ", restored", ahead, ALL, Arrays.asList("step", "judged", "fault",
            Calls.told(Calls.row("count", 8))));
    }

    /** Behind whatever was lived new ALLEYS are as in a new object. */
    private static void newAlleys(int seed) {
        Calls fresh = new Calls(seed + 2000);
        fresh.goodAlleys();
        List<Long> want;
        Run other = new Run("4");
        other.playAll(fresh.rows);
        want = other.playAll(ALL);
        Run run = new Run("4");
        run.playAll(lived(seed, 260).rows);
        run.playAll(fresh.rows);
        run.dueLike("run " + seed + ", new ALLEYS", want, ALL, TOLD_LAST);
        run.due(-1, "undo");
    }

    /** Behind MINUTES and PLANS that went by drawn() is as ahead of them; the lanes of now stay. */
    private static void drawnAnew(int seed) {
        Calls fresh = new Calls(seed);
        fresh.goodAlleys();
        fresh.addCall("lane");
        fresh.addCall("lane");
        Run other = new Run("27");
        other.playAll(fresh.rows);
        long isDrawn = other.call("drawn", seed * 7919);
        List<Long> want = other.playAll(ALL);
        Run run = new Run("27");
        run.playAll(fresh.rows);
        Random random = new Random(seed);
        for (int i = 0; i < 5; i++) {
            run.call("on", 1 + random.nextInt(4));
            run.call("drawn", random.nextInt());
            run.call("on", 1 + random.nextInt(100));
        }
        run.due(isDrawn, "drawn", seed * 7919);
        run.dueLike("run " + seed + ", drawn", want, ALL, NOTHING);
    }

    /** Texts with a FAULT between other calls change nothing but fault() and the tape. */
    private static void faultsBetween(int seed) {
        List<int[]> prefix = lived(seed, 140).rows;
        Run run = new Run("4, 29, 32");
        run.playAll(prefix);
        run.call("end", 0);
        List<Long> ahead = run.playAll(ALL);
        run.dueTaken(-6, "alleys", "land Q");
        run.due(1, "fault");
        run.dueTaken(-1 - 14, "alleys", "land 2 2;wall 2 1;");
        run.due(2, "fault");
        run.dueTaken(-1 - 9, "alleys", "land 2 2;land 2 2;");
        run.due(3, "fault");
        run.dueTaken(-1 - 28, "alleys", "land 9 9;wall 8 8;chair q 8 8 1 1 0 0;");
        run.due(5, "fault");
        run.dueTaken(-1, "plan", "nobody n;");
        run.due(3, "fault");
        run.dueTaken(-1 - 6, "sentence", "ahead nobody");
        run.due(3, "fault");
        run.dueTaken(-1, "sentence", "");
        run.due(1, "fault");
        run.dueLike("run " + seed + ", behind FAULTS", ahead, ALL, Arrays.asList("fault"));
    }

    private static final String NICHE = "land 5 2;wall 0 1;wall 1 1;wall 3 1;wall 4 1;chair a 0 0 3 1 4 0;"
        + "chair b 4 0 5 2 0 0;law rank;";

    /** One object through all promises; the answers were worked out by hand. */
    private static void aLongDay() {
        Run run = new Run("1 to 36");
        run.dueTaken(8, "alleys", NICHE);
        run.dueAll("count", 0, 5, 2, 2, 4, 0, 0, 0, 0, 0);
        run.due(1, "image", 0);
        run.due(2, "on", 2);
        // b, of the greater rank, took CELL 2 in MINUTE 1; a waits on 1, and b's next CELL is 1.
        run.dueAll("met", 0, 1, 0, 1, 2, 0);
        run.dueAll("now", 0, 2, 2, 0, 1, 0, 1);
        // From 2 to the south alone: there is no WAY along the alley, but one may step.
        run.due(1, "lane", 2, 2);
        run.due(-1, "way", 2, 0);
        run.due(1, "way", 2, 12);
        run.due(-1, "next", 1);
        run.due(-1, "next", 0);
        run.dueTaken(1, "plan", "b s;");
        run.due(-1, "judge", 1);
        run.dueAll("judged", 0, 0, 1, 0);
        run.dueAll("chair", 1, 12, 5, 2, 0, 0, 0, 3, 0, 0, -1);
        run.due(1, "on", 1);
        // Both are without a WAY, and wait; that is no MEETING.
        run.dueAll("now", 0, 3, 2, 0, 1, 0, 3);
        run.due(3, "undo");
        run.dueAll("now", 0, 2, 2, 0, 1, 0, 1);
        run.due(12, "chair", 1, 0);
        run.due(1, "lane", 2, -1);
        // b is ahead, so it comes out of the niche first: a MEETING again.
        run.due(1, "on", 1);
        run.due(2, "chair", 1, 0);
        run.dueAll("met", 1, 2, 0, 1, 2, 0);
        run.due(2, "now", 3);
        run.due(4, "undo");
        run.dueTaken(3, "plan", "a e;a e;a e;");
        run.due(-1, "judge", 0);
        run.dueAll("judged", 0, 0, 3, 1);
        run.due(1, "chair", 0, 0);
        run.due(-1, "judge", 1);
        // a is THERE in the MINUTE that is next; b has the alley alone: 12, 2, 1, 0.
        run.dueAll("chair", 0, -1, 3, 1, 4, 0, 0, 4, 0, 1, 2);
        run.dueAll("now", 0, 2, 1, 1, 1, 0, 1);
        run.due(4, "last");
        run.due(4, "when", 1);
        run.due(-1, "when", 0);
        run.due(3, "untied");
        run.due(4, "step", 0);
        run.due(7, "step", 1);
        run.due(7, "step", 2);
        run.dueTaken(3, "sentence", "there or come>2 and place=1");
        run.due(2, "said", -1);
        run.due(1, "image", 1);
        run.due(3, "on", 3);
        run.dueAll("now", 0, 5, 0, 2, 1, 0, 1);
        run.due(-1, "last");
        run.due(5, "undo");
        run.due(4, "undo");
        // The PLAN that was lived is undone: a is on 1 again; the SENTENCE stays.
        run.due(1, "chair", 0, 0);
        run.due(1, "said", -1);
        run.due(1, "said", 0);
        run.due(1, "restore", 0);
        run.due(-1, "undo");
        run.dueAll("now", 0, 0, 0, 0, 0, 0, 0);
        run.due(-1, "said", -1);
        run.due(0, "count", 7);
        run.due(4, "step", 0);
        run.dueAll("judged", 0, 0, 3, 1);
        run.due(1, "restore", 1);
        run.due(-1, "undo");
        run.dueAll("now", 0, 2, 1, 1, 1, 0, 1);
        run.due(2, "said", -1);
        run.due(3, "count", 7);
        run.due(0, "lane", 0, 4);
        run.due(1, "drawn", 1);
        run.dueAll("now", 0, 0, 0, 0, 0, 0, 0);
        run.due(0, "undo");
        run.dueAll("now", 0, 2, 1, 1, 1, 0, 1);
        run.due(0, "chair", 0, 4);
        run.due(-1, "undo");
    }

    /** 500 MINUTES, more MEETINGS than are kept, a lane, a PLAN, a SENTENCE: and then ALLEYS of one CHAIR. */
    private static void newAlleysBehindAFullDay() {
        Run run = new Run("4");
        run.dueTaken(9, "alleys", "land 5 2;wall 0 1;wall 1 1;wall 2 1;wall 3 1;wall 4 1;chair a 0 0 3 1 4 0;"
            + "chair b 4 0 5 2 0 0;law rank;");
        for (int i = 0; i < 5; i++) {
            run.due(100, "on", 100);
        }
        // One wait and one push in MINUTES 1 and 2; then both wait, in each MINUTE.
        dueFullDay(run);
        run.due(1, "image", 0);
        run.due(1, "lane", 2, 1);
        run.dueTaken(2, "plan", "b e;b e;");
        run.due(-1, "judge", 1);
        run.dueAll("judged", 0, 0, 2, 0);
        run.due(3, "chair", 1, 0);
        run.dueTaken(1, "sentence", "waits>497");
        run.due(1, "said", -1);
        run.due(0, "said", 0);
        run.due(6, "undo");
        run.dueTaken(2, "alleys", "land 3 3;chair z 0 0 1 1 2 2;");
        run.dueAll("count", 0, 3, 3, 1, 0, 0, 0, 0, 0, 0);
        run.dueAll("now", 0, 0, 0, 0, 0, 0, 0);
        run.dueAll("chair", 0, -1, 1, 1, 22, 0, 0, 0, 0, 0, -1);
        run.due(Face.THROWS, "chair", 1, 0);
        run.due(Face.THROWS, "cell", 3, 0);
        run.dueAll("cell", 10, 0, 0, 0, -1, 0);
        run.due(-1, "cell", 2, 3);
        run.due(0, "order", 0);
        run.due(-1, "order", 1);
        run.due(-1, "met", 0, 0);
        run.due(-1, "said", -1);
        run.due(-1, "undo");
        run.dueAll("judged", 0, 0, 2, 0);
        run.due(3, "last");
        run.due(100, "on", 100);
        run.dueAll("now", 0, 100, 0, 1, 0, 0, 0);
        run.dueAll("chair", 0, -1, 1, 1, 22, 0, 0, 4, 0, 0, 3);
        run.due(0, "restore", 1);
        run.due(1, "restore", 0);
        dueFullDay(run);
        run.dueAll("count", 0, 5, 2, 2, 5, 0, 0, 0, 0, 0);
        run.due(-1, "said", -1);
        run.due(-1, "undo");
        run.due(1, "chair", 1, 0);
        // A text of no LINES: no land, nobody.
        run.due(0, "alleys");
        run.dueAll("count", 0, 0, 0, 0, 0, 0, 0, 0, 0, 0);
        run.due(-1, "last");
        run.due(Face.THROWS, "cell", 0, 0);
        run.due(Face.THROWS, "chair", 0, 0);
    }

    private static void dueFullDay(Run run) {
        run.dueAll("now", 0, 500, 2, 0, 996, 1, 995);
        run.dueAll("met", 0, 1, 0, 1, 2, 0);
        run.dueAll("met", 1, 2, 1, 0, 1, 1);
        run.dueAll("met", 58, 31, 1, 0, 0, 0);
        run.dueAll("met", 59, 31, 0, 1, 1, 0);
        run.dueAll("met", 60, -1, -1, -1, -1, -1);
        run.dueAll("chair", 0, 0, 3, 1, 4, 0, 0, 1, 1, 498, -1);
        run.dueAll("chair", 1, 1, 5, 2, 0, 0, 0, 3, 0, 497, -1);
        run.due(500, "last");
        run.due(0, "on", 1);
    }

    /** Two ALLEYS, each kept in a place of its own, and gone on with by turns. */
    private static void imagesOfTwoAlleys() {
        Run run = new Run("34, 35");
        run.dueTaken(8, "alleys", NICHE);
        run.dueTaken(1, "plan", "a e;");
        run.due(1, "on", 1);
        run.due(1, "image", 0);
        // p and q each go by CELL 1, which is ahead of 10 by n, e, s, w.
        run.dueTaken(3, "alleys", "land 2 2;chair p 0 0 0 0 1 1;chair q 1 1 0 0 0 0;");
        run.due(500, "last");
        run.due(2, "oneWay");
        run.dueTaken(1, "plan", "p s;");
        run.dueTaken(1, "sentence", "ahead q");
        run.due(1, "on", 1);
        run.dueAll("met", 0, 0, 1, 0, 1, 0);
        run.due(1, "image", 1);
        for (int turn = 0; turn < 3; turn++) {
            run.due(1, "restore", 0);
            run.dueAll("now", 0, 1, 2, 0, 0, 0, 0);
            run.due(-1, "said", -1);
            run.due(-1, "judge", 0);
            run.dueAll("judged", 0, 0, 1, 0);
            run.due(1, "on", 1);
            run.due(2, "chair", 1, 0);
            run.dueAll("met", 0, 1, 0, 1, 2, 0);
            run.due(1, "lane", 0, 2);
            run.due(1, "undo");
            run.due(0, "undo");
            run.due(3, "chair", 1, 0);
            run.due(-1, "undo");
            run.due(1, "restore", 1);
            run.dueAll("now", 0, 1, 2, 0, 1, 0, 1);
            run.due(1, "said", -1);
            run.due(0, "said", 0);
            run.due(0, "judge", 0);
            run.dueAll("judged", 0, 3, 0, 0);
            run.due(0, "count", 6);
            run.due(2, "on", 2);
            run.dueAll("now", 0, 3, 2, 0, 5, 0, 5);
            run.due(1, "lane", 1, 3);
            // From 1 p must go west now, and by 0 and 10 round to 11; q comes to 1 behind it.
            run.due(3, "way", 1, 11);
            run.due(1, "undo");
        }
    }
}
