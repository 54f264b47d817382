import java.util.Random;

/**
 * What one promise answers held against what others do: counsel is followed, and what it foretold must come; texts are
 * changed as a question supposes, and the day lived. So these promises are looked at without a model of them.
 */
public final class TogetherTest {
    private static final String[] DIRS = {"n", "e", "s", "w"};
    private static final int[] ASIDE = {-10, 1, 10, -1};

    public static void main(String[] args) {
        for (int seed = 0; seed < 1500; seed++) {
            String text = new Texts(new Random(seed)).alleys();
            whatIsForetoldComes(text, seed);
            sumsAndRows(text, seed);
            minutesOneByOne(text, seed);
            waysAndNext(text, seed);
            orderAndAhead(text, seed);
            knotsByPlans(text, seed);
            oddsByDays(text, seed);
            beganByTexts(text);
            lentByTexts(text);
            votedByTexts(text, seed);
            votedByPlans(text, seed);
        }
        for (int seed = 0; seed < 200; seed++) {
            String text = new Texts(new Random(seed)).alleys();
            invitedByTexts(text, 1 + seed % 4);
            oneWayByLanes(text, seed);
        }
        Check.close("TogetherTest");
    }

    private static Check begun(String promise, String text, int minutes) {
        Check k = new Check(promise, text);
        if (minutes > 0) {
            k.x.on(minutes);
        }
        return k;
    }

    private static int whenThere(Check k, int c) {
        return k.chair(c, 9) < 0 ? 500 : k.chair(c, 9);
    }

    private static void liveTheDay(Check k) {
        for (int i = 0; i < 5; i++) {
            k.x.on(100);
        }
        k.due("now(0)", k.x.now(0), 500);
    }

    private static void whatIsForetoldComes(String text, int seed) {
        Check k = begun("19, 25, 26", text, seed % 6);
        int chairs = k.x.count(2);
        int last = k.x.last();
        int latest = k.x.latest();
        int there = k.x.now(2);
        int[] when = new int[chairs];
        for (int c = 0; c < chairs; c++) {
            when[c] = k.x.when(c);
            k.due("when(" + c + ") of one that is THERE", when[c] == -1, k.chair(c, 9) != -1);
        }
        liveTheDay(k);
        int latestDue = 0;
        int lastDue = there == chairs ? -1 : 0;
        for (int c = 0; c < chairs; c++) {
            if (when[c] != -1) {
                k.due("when(" + c + ") of '" + text + "'", when[c], whenThere(k, c));
            }
            lastDue = there == chairs ? -1 : Math.max(lastDue, whenThere(k, c));
            latestDue = k.chair(c, 8) > k.chair(latestDue, 8) ? c : latestDue;
        }
        k.due("last() of '" + text + "'", last, lastDue);
        k.due("latest() of '" + text + "'", latest, chairs == 0 ? -1 : latestDue);
    }

    private static void sumsAndRows(String text, int seed) {
        Check k = begun("6, 7, 12, 13", text, 1 + seed % 30);
        int out = 0;
        int there = 0;
        int backs = 0;
        int waits = 0;
        int onCells = 0;
        int lanes = 0;
        for (int c = 0; c < k.x.count(2); c++) {
            out += k.chair(c, 0) != -1 ? 1 : 0;
            there += k.chair(c, 9) != -1 ? 1 : 0;
            backs += k.chair(c, 7);
            waits += k.chair(c, 8);
        }
        for (int at = 0; at < 100; at++) {
            if (k.cell(at, 0) != Check.THROWN) {
                onCells += k.cell(at, 4);
                lanes += k.cell(at, 3) != -1 ? 1 : 0;
            }
        }
        int pushes = 0;
        int meetings = 0;
        while (k.x.met(meetings, 0) != -1) {
            pushes += k.x.met(meetings, 4);
            meetings++;
        }
        k.due("count(6)", k.x.count(6), lanes);
        k.dueNow(1 + seed % 30, out, there, k.x.now(3), backs, waits);
        k.due("CHAIRS on all CELLS", onCells, out);
        k.due("MEETINGS kept", meetings, Math.min(k.x.now(3), 60));
        if (meetings < 60) {
            k.due("pushes among the MEETINGS", pushes, backs);
        }
    }

    private static void minutesOneByOne(String text, int seed) {
        int minutes = 2 + seed % 40;
        Check once = begun("11", text, minutes);
        Check many = begun("11", text, 0);
        for (int i = 0; i < minutes; i++) {
            many.due("on(1)", many.x.on(1), 1);
        }
        for (int what = 0; what < 6; what++) {
            many.due("now(" + what + ")", many.x.now(what), once.x.now(what));
        }
        for (int c = 0; c < once.x.count(2); c++) {
            for (int what = 0; what < 10; what++) {
                many.due("chair(" + c + ", " + what + ")", many.chair(c, what), once.chair(c, what));
            }
        }
    }

    private static void waysAndNext(String text, int seed) {
        Check k = begun("8, 9", text, 1 + seed % 4);
        for (int c = 0; c < k.x.count(2); c++) {
            int at = k.chair(c, 0);
            if (at == -1) {
                continue;
            }
            int bound = k.chair(c, 3);
            int far = k.x.way(at, bound);
            int due = -1;
            for (int dir = 3; dir >= 0; dir--) {
                int to = at + ASIDE[dir];
                boolean isBeside = to >= 0 && to < 100 && (dir % 2 == 0 || to / 10 == at / 10);
                boolean isOpen = isBeside && (k.cell(at, 3) == -1 || k.cell(at, 3) == dir);
                if (far > 0 && isOpen && k.x.way(to, bound) == far - 1) {
                    due = to;
                }
            }
            k.due("next(" + c + ") in '" + text + "'", k.x.next(c), due);
        }
    }

    private static String nameOf(String text, int c) {
        int found = 0;
        for (String line : text.split(";")) {
            if (line.startsWith("chair ") && found++ == c) {
                return line.split(" ")[1];
            }
        }
        throw new IllegalArgumentException(text);
    }

    private static void orderAndAhead(String text, int seed) {
        Check k = begun("10, 33", text, seed % 8);
        for (int i = 0; i < k.x.count(2); i++) {
            int c = k.x.order(i);
            k.due("sentence()", k.sentence("ahead " + nameOf(text, c)), 1);
            k.due("CHAIRS ahead of the " + i + "th of '" + text + "'", k.x.said(-1), i);
            for (int j = 0; j < i; j++) {
                k.due("sentence()", k.sentence("ahead " + nameOf(text, c) + " and place=" + k.x.order(j)), 2);
                k.due("the " + j + "th is ahead of the " + i + "th", k.x.said(0), k.x.order(j));
            }
        }
    }

    /** The STEPS out of a knot are a PLAN that is not WRONG, behind which nobody is out. */
    private static void knotsByPlans(String text, int seed) {
        Check k = begun("16, 17, 29 to 31", text, 1 + seed % 3);
        int steps = k.x.untied();
        if (steps < 0 || steps > 40) {
            return;
        }
        StringBuilder plan = new StringBuilder();
        for (int i = 0; i < steps; i++) {
            plan.append(nameOf(text, k.x.step(i) / 4)).append(' ').append(DIRS[k.x.step(i) % 4]).append(';');
        }
        int all = k.x.now(1) + k.x.now(2);
        int minute = k.x.now(0);
        k.due("plan()", k.plan(plan.toString()), steps);
        k.due("judge(0) of untied()'s STEPS", k.x.judge(0), -1);
        k.due("judged(1)", k.x.judged(1), steps);
        k.due("judged(2)", k.x.judged(2), all);
        k.due("judge(1)", k.x.judge(1), -1);
        k.dueNow(minute, 0, all);
        k.due("untied(), nobody out", k.x.untied(), 0);
        k.due("undo()", k.x.undo(), steps > 0 ? 1 : 0);
    }

    private static void oddsByDays(String text, int seed) {
        int first = seed * 1234567;
        int due = 0;
        for (int i = 0; i < 4; i++) {
            Check k = begun("27, 28", text, seed % 3);
            k.due("drawn()", k.x.drawn(first + i), true);
            k.x.on(100);
            due += k.x.now(3) > 0 ? 1 : 0;
            k.due("odds(1, ..) of '" + text + "'", k.x.odds(1, first + i), k.x.now(3) > 0 ? 1 : 0);
        }
        Check k = begun("28", text, 0);
        k.due("odds(4, " + first + ") of '" + text + "'", k.x.odds(4, first), due);
    }

    private static String without(String text, String name) {
        StringBuilder sb = new StringBuilder();
        for (String line : text.split(";")) {
            String[] words = line.split(" ");
            boolean isOfIt = words[0].equals("chair") || words[0].equals("start") || words[0].equals("sick");
            if (!isOfIt || !words[1].equals(name)) {
                sb.append(line).append(';');
            }
        }
        return sb.toString();
    }

    private static void beganByTexts(String text) {
        Check k = begun("21", text, 3);
        int due = 0;
        for (int c = 0; c < k.x.count(2); c++) {
            Check other = begun("21", without(text, nameOf(text, c)), 100);
            due |= other.x.now(3) == 0 ? 1 << c : 0;
        }
        k.due("began() of '" + text + "'", k.x.began(), due);
    }

    private static String withRank(String text, int c, int rank) {
        String name = nameOf(text, c);
        StringBuilder sb = new StringBuilder();
        for (String line : text.split(";")) {
            String[] words = line.split(" ");
            if (words[0].equals("chair") && words[1].equals(name)) {
                words[4] = Integer.toString(rank);
            }
            sb.append(String.join(" ", words)).append(';');
        }
        return sb.toString();
    }

    private static void lentByTexts(String text) {
        Check k = begun("22", text, 0);
        for (int c = 0; c < k.x.count(2); c++) {
            for (int d = 0; d < k.x.count(2); d++) {
                Check other = begun("22", withRank(text, c, k.chair(d, 1)), 0);
                k.due("lent(" + c + ", " + d + ") of '" + text + "'", k.x.lent(c, d), k.x.when(c) - other.x.when(c));
            }
        }
    }

    /** One that is not out yet is as one that never was told. */
    private static void votedByTexts(String text, int seed) {
        Check k = begun("24", text, 1 + seed % 3);
        for (int c = 0; c < k.x.count(2); c++) {
            if (k.chair(c, 0) != -1 || k.chair(c, 9) != -1 || k.chair(c, 4) < k.x.now(0)) {
                continue;
            }
            Check other = begun("24", without(text, nameOf(text, c)), 1 + seed % 3);
            int votes = 0;
            for (int d = 0; d < k.x.count(2); d++) {
                if (k.chair(d, 0) != -1) {
                    votes += other.x.when(d > c ? d - 1 : d) < k.x.when(d) ? 1 : -1;
                }
            }
            k.due("voted(" + c + ") of '" + text + "'", k.x.voted(c), votes > 0 ? 1 : 0);
        }
    }

    /** One that is out is gone from the land, too, if a PLAN brings it THERE; the others stay where they are. */
    private static void votedByPlans(String text, int seed) {
        for (int c = 0; c < begun("24", text, 0).x.count(2); c++) {
            Check k = begun("24", text, 1 + seed % 6);
            int chairs = k.x.count(2);
            int voted = k.x.voted(c);
            int[] with = new int[chairs];
            for (int d = 0; d < chairs; d++) {
                with[d] = k.x.when(d);
            }
            if (k.chair(c, 0) == -1 || k.plan(planAlone(k, text, c)) < 1 || k.x.judge(0) != -1) {
                continue;
            }
            int votes = -1;
            k.x.judge(1);
            k.due("now a CHAIR is THERE", k.chair(c, 9) != -1, true);
            for (int d = 0; d < chairs; d++) {
                if (k.chair(d, 0) != -1) {
                    votes += k.x.when(d) < with[d] ? 1 : -1;
                }
            }
            k.due("voted(" + c + ") of '" + text + "'", voted, votes > 0 ? 1 : 0);
        }
    }

    /** A PLAN by which a CHAIR goes its WAY, as if it were alone; of no STEP, if there is none. */
    private static String planAlone(Check k, String text, int c) {
        StringBuilder plan = new StringBuilder();
        int bound = k.chair(c, 3);
        int at = k.chair(c, 0);
        int far = k.x.way(at, bound);
        for (int left = far; left > 0 && left < 20; left--) {
            int from = at;
            for (int dir = 0; dir < 4 && at == from; dir++) {
                int to = from + ASIDE[dir];
                boolean isBeside = to >= 0 && to < 100 && (dir % 2 == 0 || to / 10 == from / 10);
                boolean isOpen = isBeside && (k.cell(from, 3) == -1 || k.cell(from, 3) == dir);
                if (isOpen && k.x.way(to, bound) == left - 1) {
                    plan.append(nameOf(text, c)).append(' ').append(DIRS[dir]).append(';');
                    at = to;
                }
            }
        }
        return plan.toString();
    }

    private static String withStarts(String text, int row, int chairs, int span) {
        StringBuilder sb = new StringBuilder();
        for (String line : text.split(";")) {
            if (!line.startsWith("start ")) {
                sb.append(line).append(';');
            }
        }
        for (int c = 0; c < chairs; c++) {
            int part = row / (int) Math.pow(4, chairs - 1 - c) % 4;
            sb.append("start ").append(nameOf(text, c)).append(' ').append(part * span).append(';');
        }
        return sb.toString();
    }

    private static void invitedByTexts(String text, int span) {
        Check k = begun("20", text, 2);
        int chairs = k.x.count(2);
        int due = -1;
        for (int row = 0; row < Math.pow(4, chairs) && chairs <= 4 && due == -1; row++) {
            Check other = begun("20", withStarts(text, row, chairs, span), 100);
            due = other.x.now(3) == 0 ? row : -1;
        }
        k.due("invited(" + span + ") of '" + text + "'", k.x.invited(span), due);
    }

    private static void oneWayByLanes(String text, int seed) {
        Check k = begun("15, 18", text, seed % 3);
        if (k.x.last() == -1) {
            k.due("oneWay(), nobody is to come", k.x.oneWay(), -1);
            return;
        }
        int best = -1;
        long bestSum = lived(begun("18", text, seed % 3));
        for (int at = 0; at < 100; at++) {
            boolean isOpen = k.cell(at, 0) == 0 && k.cell(at, 3) == -1;
            for (int dir = 0; dir < 4 && isOpen; dir++) {
                Check other = begun("18", text, seed % 3);
                other.due("lane()", other.x.lane(at, dir), true);
                long sum = lived(other);
                if (sum < bestSum) {
                    bestSum = sum;
                    best = 10 * at + dir;
                }
            }
        }
        k.due("oneWay() of '" + text + "'", k.x.oneWay(), best);
    }

    /** The MINUTE of the last one, then the waits, as one number. */
    private static long lived(Check k) {
        liveTheDay(k);
        int last = 0;
        for (int c = 0; c < k.x.count(2); c++) {
            last = Math.max(last, whenThere(k, c));
        }
        return last * 1000000L + k.x.now(5);
    }
}
