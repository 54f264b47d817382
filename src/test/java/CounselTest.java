/** Promises 16 to 28, 30, 31 and 33: what would be so, and what may be said. */
public final class CounselTest {
    private static final String NARROW = "land 5 2;wall 0 1;wall 1 1;wall 2 1;wall 3 1;wall 4 1;";
    private static final String NICHE = "land 5 2;wall 0 1;wall 1 1;wall 3 1;wall 4 1;";
    /** A ring of eight CELLS; a and b go against each other along its upper side. */
    private static final String RING = "land 3 3;wall 1 1;chair a 0 0 1 0 2 0;chair b 2 0 2 0 0 0;";
    /** b comes from below into the way of a; who has the greater rank is ahead. */
    private static final String JOINT = "land 4 2;wall 0 1;wall 2 1;wall 3 1;chair a 0 0 1 0 3 0;chair b 1 1 2 0 3 0;law rank;";

    public static void main(String[] args) {
        untied();
        untiedWithRoom();
        untiedRefused();
        oneWay();
        oneWayByWaits();
        lastAndWhen();
        invited();
        began();
        lent();
        torches();
        voted();
        latest();
        drawn();
        odds();
        judge();
        judgeLived();
        said();
        saidOfPlace();
        Check.close("CounselTest");
    }

    private static void dueSteps(Check k, int... want) {
        k.due("untied()", k.x.untied(), want.length);
        for (int i = 0; i < want.length; i++) {
            k.due("step(" + i + ")", k.x.step(i), want[i]);
        }
        k.due("step(" + want.length + ")", k.x.step(want.length), -1);
        k.due("step(-1)", k.x.step(-1), -1);
    }

    private static void untied() {
        Check k = new Check("16, 17", NICHE + "chair a 0 0 3 1 4 0;chair b 4 0 5 2 0 0;law rank;");
        k.due("step(0)", k.x.step(0), -1);
        k.due("untied(), nobody out", k.x.untied(), 0);
        k.due("step(0)", k.x.step(0), -1);
        k.x.on(1);
        // a is on 1, b on 3: a goes to the niche first, for 0 is below 1.
        dueSteps(k, 1, 2, 7, 7, 0, 1, 1, 7);
        k.dueChair(0, 0, 1);
        k.due("undo()", k.x.undo(), 0);
        k.due("step(1): as told last", k.x.step(1), 2);
        // Without the niche it can't be; the STEPS told last stay.
        k.alleys(NARROW + "chair a 0 0 3 1 4 0;chair b 4 0 5 2 0 0;");
        k.x.on(1);
        k.due("untied()", k.x.untied(), -1);
        k.due("step(1): as told last", k.x.step(1), 2);
        // Those that are not out do not mind; lanes and walls do.
        k.alleys("land 3 2;lane 0 0 s;lane 2 1 w;chair a 0 0 0 0 2 0;chair b 1 0 0 0 0 0;start b 9;");
        k.x.on(1);
        k.dueChair(0, 0, 10);
        dueSteps(k, 0 + 1, 0, 1);
    }

    private static void untiedWithRoom() {
        Check k = new Check("16", NARROW + "wide 2 0;chair a 1 0 0 0 4 0;chair b 3 0 0 0 0 0;stairs 1 0;stairs 3 0;");
        k.x.on(1);
        k.dueCell(2, 4, 2);
        // Both are on the wide CELL, and pass.
        dueSteps(k, 1, 1, 7, 7);
        k.alleys(NARROW + "wide 2 0;chair a 1 0 0 0 3 0;chair b 3 0 0 0 1 0;");
        k.x.on(1);
        dueSteps(k, 1, 7);
        // Three CHAIRS; one is gone as soon as it is where it is bound. A wall told behind a CHAIR is stepped off.
        k.alleys("land 3 2;chair a 0 0 0 0 0 1;chair b 1 0 0 0 1 1;chair c 2 0 0 0 2 1;wall 0 0;wall 1 0;wall 2 0;");
        k.x.on(1);
        k.due("now(5)", k.x.now(5), 3);
        dueSteps(k, 2, 6, 10);
        // Nobody steps onto a wall.
        k.alleys("land 3 2;chair a 0 0 0 0 2 0;wall 1 0;wall 1 1;");
        k.x.on(1);
        k.due("untied()", k.x.untied(), -1);
    }

    private static void untiedRefused() {
        Check k = new Check("16", "land 6 6;chair a 0 0 0 0 5 5;");
        k.x.on(1);
        k.due("untied() of 36 CELLS", k.x.untied(), 9);
        k.alleys("land 10 4;chair a 0 0 0 0 9 3;");
        k.x.on(1);
        k.due("untied() of 40 CELLS", k.x.untied(), -2);
        k.due("step(0): as told last", k.x.step(0), 1);
        String four = "land 4 2;chair a 0 0 0 0 0 1;chair b 1 0 0 0 1 1;chair c 2 0 0 0 2 1;chair d 3 0 0 0 3 1;"
            + "lane 0 0 n;lane 1 0 n;lane 2 0 n;lane 3 0 n;";
        k.alleys(four);
        k.x.on(1);
        k.due("untied() of 4 CHAIRS out", k.x.untied(), -2);
        k.alleys(four + "start a 5;");
        k.x.on(1);
        k.due("untied() of 3 CHAIRS out", k.x.untied(), -1);
    }

    private static void oneWay() {
        Check k = new Check("18", RING);
        k.due("last()", k.x.last(), 500);
        // CELL 0 to the south: a goes round, in 6 STEPS.
        k.due("oneWay()", k.x.oneWay(), 2);
        k.due("count(6): nothing is changed", k.x.count(6), 0);
        k.due("lane(0, 2)", k.x.lane(0, 2), true);
        k.due("last()", k.x.last(), 5);
        k.due("oneWay(): none is better", k.x.oneWay(), -1);
        // CELL 0 has a lane: so it must be 1 to the east, by which b goes round.
        k.alleys(RING + "lane 0 0 e;");
        k.due("oneWay()", k.x.oneWay(), 11);
        k.alleys(RING + "lane 0 0 e;lane 1 0 e;");
        k.due("last()", k.x.last(), 5);
        k.due("oneWay()", k.x.oneWay(), -1);
        // Nobody is to come.
        k.alleys("land 2 2;chair a 0 0 0 0 0 0;");
        k.x.on(1);
        k.due("oneWay()", k.x.oneWay(), -1);
        k.alleys("land 2 2;");
        k.due("oneWay()", k.x.oneWay(), -1);
    }

    /** b rests on the stairs ahead of a; 0 to the south would do as soon as 1 to the west, but b would wait. */
    private static void oneWayByWaits() {
        Check k = new Check("18", "land 3 3;wall 1 1;chair a 0 0 0 0 2 2;chair b 1 0 0 0 2 2;stairs 2 0;sick a;");
        k.due("last()", k.x.last(), 6);
        k.due("oneWay()", k.x.oneWay(), 13);
        k.x.lane(0, 2);
        k.due("last()", k.x.last(), 4);
        k.x.undo();
        k.x.lane(1, 3);
        k.due("last()", k.x.last(), 4);
        // c is never THERE, so all are as late as can be: then it is the waits alone.
        k.alleys("land 3 3;chair a 0 0 0 0 2 2;chair b 1 0 0 0 2 2;stairs 2 0;sick a;chair c 1 1 0 0 0 0;wall 1 1;");
        k.due("last()", k.x.last(), 500);
        k.due("oneWay()", k.x.oneWay(), 13);
    }

    private static void lastAndWhen() {
        Check k = new Check("19, 25", NARROW + "stairs 1 0;chair a 0 0 0 0 3 0;start a 7;chair b 4 0 0 0 4 0;start b 12;");
        k.due("last()", k.x.last(), 12);
        k.due("when(0)", k.x.when(0), 10);
        k.due("when(1)", k.x.when(1), 12);
        k.due("when(2)", k.x.when(2), -1);
        k.due("when(-1)", k.x.when(-1), -1);
        k.x.on(11);
        k.due("when(0), THERE", k.x.when(0), -1);
        k.due("last()", k.x.last(), 12);
        k.x.on(2);
        k.due("last(): nobody is to come", k.x.last(), -1);
        k.alleys("land 2 2;");
        k.due("last(): no CHAIRS", k.x.last(), -1);
        k.alleys("land 2 2;lane 0 0 n;chair a 0 0 0 0 1 1;chair b 1 0 0 0 1 1;");
        k.due("last()", k.x.last(), 500);
        k.due("when(0)", k.x.when(0), 500);
        k.due("when(1)", k.x.when(1), 0);
        k.due("now(0): nothing is changed", k.x.now(0), 0);
    }

    private static void invited() {
        Check k = new Check("20", RING);
        k.due("invited(1)", k.x.invited(1), 2);
        k.due("invited(2)", k.x.invited(2), 1);
        k.due("invited(30)", k.x.invited(30), 1);
        k.due("invited(31)", k.x.invited(31), -1);
        k.due("invited(0)", k.x.invited(0), -1);
        k.dueChair(1, 4, 0);
        // From the beginning, whatever is so now; but with the lanes of now.
        k.x.on(5);
        k.due("invited(2)", k.x.invited(2), 1);
        k.x.lane(2, 2);
        k.due("invited(2)", k.x.invited(2), 0);
        // Four are few enough, five are not.
        String more = RING + "chair c 0 2 0 0 0 2;chair d 0 2 0 0 0 2;";
        k.alleys(more);
        k.due("invited(2) of 4", k.x.invited(2), 16);
        k.alleys(more + "chair f 0 2 0 0 0 2;");
        k.due("invited(2) of 5", k.x.invited(2), -1);
        k.alleys("land 2 2;");
        k.due("invited(2) of none", k.x.invited(2), -1);
        // a is there for ever, and meets b at any time.
        k.alleys(NARROW + "lane 1 0 e;chair a 1 0 0 0 3 0;chair b 4 0 0 0 0 0;lane 2 0 w;");
        k.due("invited(5)", k.x.invited(5), 0);
        k.alleys(NARROW + "chair a 1 0 0 0 3 0;chair b 2 0 0 0 0 0;lane 2 0 w;");
        k.due("invited(1)", k.x.invited(1), 0);
    }

    private static void began() {
        Check k = new Check("21", RING);
        k.due("began()", k.x.began(), 3);
        k.alleys(RING + "chair c 1 2 0 0 1 2;");
        k.due("began(), c has no part", k.x.began(), 3);
        k.alleys("land 3 3;chair a 0 0 1 0 2 0;chair b 0 2 2 0 2 2;");
        k.due("began(), no MEETING at all", k.x.began(), 3);
        // Two knots: nobody alone is at their root.
        k.alleys("land 3 3;wall 0 1;wall 1 1;wall 2 1;chair a 0 0 1 0 2 0;chair b 2 0 2 0 0 0;chair c 0 2 0 0 2 2;"
            + "chair d 2 2 0 0 0 2;");
        k.due("began(), two knots", k.x.began(), 0);
        // A MEETING behind 100 MINUTES does not count.
        k.alleys("land 3 2;wall 0 1;wall 1 1;wall 2 1;chair a 0 0 1 0 2 0;chair b 2 0 2 0 0 0;start a 98;start b 98;");
        k.due("began()", k.x.began(), 3);
        k.x.lane(0, 3);
        k.due("began() with a lane", k.x.began(), 3);
        k.alleys("land 2 2;");
        k.due("began() of none", k.x.began(), 0);
    }

    private static void lent() {
        Check k = new Check("22", JOINT);
        k.due("when(0)", k.x.when(0), 3);
        k.due("when(1)", k.x.when(1), 2);
        k.due("lent(0, 1)", k.x.lent(0, 1), 1);
        k.due("lent(1, 0)", k.x.lent(1, 0), -1);
        k.due("lent(0, 0)", k.x.lent(0, 0), 0);
        k.due("lent(0, 2)", k.x.lent(0, 2), -1001);
        k.due("lent(2, 0)", k.x.lent(2, 0), -1001);
        k.due("lent(-1, 0)", k.x.lent(-1, 0), -1001);
        k.due("lent(0, -1)", k.x.lent(0, -1), -1001);
        k.dueChair(0, 1, 1);
        k.x.on(3);
        k.due("lent(1, 0), THERE", k.x.lent(1, 0), -1001);
        k.due("lent(0, 1), the other is THERE", k.x.lent(0, 1), 0);
        // By a law of loads rank does not mind.
        k.alleys(JOINT.replace("law rank;", "law load;"));
        k.due("lent(0, 1), by load", k.x.lent(0, 1), 0);
    }

    /** By the wide place at 1 they could pass, if a, which is on it, waits for b. */
    private static void torches() {
        Check k = new Check("23", NARROW + "wide 1 0;chair a 0 0 0 0 4 0;chair b 4 0 0 0 0 0;chair c 0 0 0 0 4 0;start c 90;");
        k.due("torches(), nobody out", k.x.torches(0, 1, 2, -1), -1);
        k.x.on(1);
        k.due("torches(0, 1, 2, -1)", k.x.torches(0, 1, 2, -1), 2);
        k.due("torches(0, 1, 2, 0)", k.x.torches(0, 1, 2, 0), 1);
        k.due("torches(0, 1, 2, 1)", k.x.torches(0, 1, 2, 1), 2);
        k.due("torches(0, 1, 2, 2)", k.x.torches(0, 1, 2, 2), -1);
        k.due("torches(0, 1, 2, -2)", k.x.torches(0, 1, 2, -2), -1);
        // The other way round the rows are the same, told the other way round.
        k.due("torches(1, 0, 2, 0)", k.x.torches(1, 0, 2, 0), 1);
        k.due("torches(1, 0, 2, 1)", k.x.torches(1, 0, 2, 1), 2);
        k.due("torches(0, 0, 2, -1)", k.x.torches(0, 0, 2, -1), -1);
        k.due("torches(0, 2, 2, -1), not out", k.x.torches(0, 2, 2, -1), -1);
        k.due("torches(0, 3, 2, -1)", k.x.torches(0, 3, 2, -1), -1);
        k.due("torches(-1, 0, 2, -1)", k.x.torches(-1, 0, 2, -1), -1);
        k.due("torches(0, 1, 0, -1)", k.x.torches(0, 1, 0, -1), -1);
        k.due("torches(0, 1, 21, -1)", k.x.torches(0, 1, 21, -1), -1);
        k.due("torches(0, 1, 20, -1)", k.x.torches(0, 1, 20, -1), 2);
        k.due("now(0): nothing is changed", k.x.now(0), 1);
        // Two that do not mind each other: to wait is never better.
        k.alleys("land 3 2;wall 2 1;chair a 0 0 0 0 2 0;chair b 0 1 0 0 1 1;");
        k.x.on(1);
        k.due("torches(), b is THERE", k.x.torches(0, 1, 1, -1), -1);
        k.alleys("land 4 2;chair a 0 0 0 0 3 0;chair b 0 1 0 0 3 1;");
        k.x.on(1);
        k.due("torches()", k.x.torches(0, 1, 1, -1), 1);
        k.due("torches()", k.x.torches(0, 1, 1, 0), 0);
    }

    /** b stands in the way for ever: where it is bound there is a wall now. */
    private static void voted() {
        Check k = new Check("24", NICHE.replace("wall 1 1;", "") + "chair a 0 0 0 0 4 0;chair c 1 0 0 0 4 0;"
            + "chair b 2 0 0 0 1 1;wall 1 1;");
        k.due("voted(2), nobody out", k.x.voted(2), 0);
        k.x.on(1);
        k.due("now(1)", k.x.now(1), 3);
        k.due("voted(2)", k.x.voted(2), 1);
        k.due("voted(0)", k.x.voted(0), 0);
        k.due("voted(1)", k.x.voted(1), 0);
        k.due("voted(3)", k.x.voted(3), -1);
        k.due("voted(-1)", k.x.voted(-1), -1);
        k.due("now(1): nothing is changed", k.x.now(1), 3);
        // With one against one it is not more.
        k.alleys(NICHE.replace("wall 1 1;", "") + "chair c 1 0 0 0 4 0;chair b 2 0 0 0 1 1;wall 1 1;");
        k.x.on(1);
        k.due("voted(1)", k.x.voted(1), 0);
        // Against one that is not out yet, but will come and stand in the way.
        k.alleys(NICHE.replace("wall 1 1;", "") + "stairs 1 0;chair c 0 0 0 0 4 0;chair b 2 0 0 0 1 1;wall 1 1;start b 1;");
        k.x.on(1);
        k.due("now(1)", k.x.now(1), 1);
        k.due("voted(1)", k.x.voted(1), 1);
    }

    private static void latest() {
        Check k = new Check("26", RING);
        // a steps in MINUTE 0, b waits in each of them.
        k.due("latest()", k.x.latest(), 1);
        k.alleys("land 2 2;chair a 0 0 0 0 1 1;chair b 0 1 0 0 1 1;");
        k.due("latest(), nobody waits", k.x.latest(), 0);
        k.alleys("land 2 2;");
        k.due("latest(), no CHAIRS", k.x.latest(), -1);
        // All its waits: those that were, too.
        k.alleys(JOINT);
        k.x.on(1);
        k.dueChair(0, 8, 1);
        k.due("latest()", k.x.latest(), 0);
        k.alleys(JOINT.replace("chair a 0 0 1 0", "chair a 0 0 5 0"));
        k.x.on(4);
        k.due("latest()", k.x.latest(), 1);
    }

    private static void drawn() {
        Check k = new Check("27", RING + "start a 3;chair c 0 1 0 0 0 2;");
        k.x.on(9);
        for (int seed : new int[] {0, 1, -1, 12345, Integer.MAX_VALUE, Integer.MIN_VALUE}) {
            k.due("drawn(" + seed + ")", k.x.drawn(seed), true);
            int x = seed;
            for (int c = 0; c < 3; c++) {
                x = x * 1103515245 + 12345;
                k.dueChair(c, 4, (x >>> 8) % 20);
            }
            k.dueNow(0, 0, 0, 0, 0, 0);
            k.x.on(30);
        }
        // By seed 1: (1103527590 >>> 8) % 20 = 4310654 % 20.
        k.x.drawn(1);
        k.dueChair(0, 4, 14);
        k.due("undo()", k.x.undo(), 7);
        k = new Check("27", RING + "start a 3;");
        k.x.on(5);
        k.x.lane(0, 2);
        k.x.drawn(4);
        k.due("count(6): lanes stay", k.x.count(6), 1);
        k.due("undo()", k.x.undo(), 2);
        k.dueChair(0, 4, 3);
        k.due("now(0)", k.x.now(0), 5);
        k.alleys("land 2 2;");
        k.due("drawn(1), no CHAIRS", k.x.drawn(1), false);
        k.due("undo()", k.x.undo(), -1);
    }

    private static void odds() {
        Check k = new Check("28", RING);
        for (int seed : new int[] {0, 7, Integer.MAX_VALUE - 3}) {
            int meeting = 0;
            for (int i = 0; i < 40; i++) {
                Check one = new Check("28", RING);
                one.x.drawn(seed + i);
                one.x.on(100);
                meeting += one.x.now(3) > 0 ? 1 : 0;
                if (i < 5) {
                    k.due("odds(" + (i + 1) + ", " + seed + ")", k.x.odds(i + 1, seed), meeting);
                }
            }
            k.due("odds(40, " + seed + ")", k.x.odds(40, seed), meeting);
            k.due("odds: some, not all", meeting > 0 && meeting < 40, true);
        }
        k.due("odds(0, 1)", k.x.odds(0, 1), -1);
        k.due("odds(41, 1)", k.x.odds(41, 1), -1);
        k.dueChair(0, 4, 0);
        k.alleys("land 2 2;");
        k.due("odds(1, 1), no CHAIRS", k.x.odds(1, 1), -1);
    }

    private static void dueJudged(Check k, String plan, int wrong, int why, int steps, int there) {
        k.due("plan() '" + plan + "' is good", k.plan(plan) >= 0, true);
        k.due("judge(0) of '" + plan + "'", k.x.judge(0), wrong);
        k.due("judged(0) of '" + plan + "'", k.x.judged(0), why);
        k.due("judged(1) of '" + plan + "'", k.x.judged(1), steps);
        k.due("judged(2) of '" + plan + "'", k.x.judged(2), there);
    }

    private static void judge() {
        Check k = new Check("30, 31", NICHE + "lane 4 0 w;chair a 0 0 0 0 2 0;chair b 4 0 0 0 0 0;chair c 3 0 0 0 3 0;");
        dueJudged(k, "a e;", 0, 1, 0, 0);
        k.x.on(1);
        // a is on 1, b on 3, and c is THERE.
        k.dueNow(1, 2, 1);
        dueJudged(k, "a w;a e;a e;", -1, 0, 3, 2);
        dueJudged(k, "a w;a w;", 1, 2, 1, 1);
        dueJudged(k, "a n;", 0, 2, 0, 1);
        dueJudged(k, "a s;", 0, 2, 0, 1);
        dueJudged(k, "b e;b n;", 1, 2, 1, 1);
        dueJudged(k, "b e;b w;b w;b w;", 3, 3, 3, 1);
        dueJudged(k, "a e;a e;", 1, 1, 1, 2);
        dueJudged(k, "c e;", 0, 1, 0, 1);
        dueJudged(k, "a e;b w;b w;b w;", -1, 0, 4, 3);
        dueJudged(k, "", -1, 0, 0, 1);
        k.due("judge(2)", k.x.judge(2), -2);
        k.due("judge(-1)", k.x.judge(-1), -2);
        k.due("judged(1), as of the latest", k.x.judged(1), 0);
        k.due("judged(3)", k.x.judged(3), -1);
        k.due("judged(-1)", k.x.judged(-1), -1);
        k.dueNow(1, 2, 1);
        k.dueChair(0, 6, 1);
    }

    private static void judgeLived() {
        Check k = new Check("30", NICHE + "wide 2 0;chair a 0 0 0 0 4 0;chair b 4 0 9 0 0 0;law rank;");
        k.x.on(1);
        k.plan("a e;b w;a s;b w;b w;b w;a n;");
        k.due("judge(1)", k.x.judge(1), 5);
        k.due("judged(0)", k.x.judged(0), 1);
        k.due("judged(1)", k.x.judged(1), 5);
        k.dueChair(0, 0, 12);
        k.dueChair(0, 6, 3);
        k.dueChair(1, 0, -1);
        k.dueChair(1, 9, 1);
        k.dueChair(1, 6, 4);
        k.dueNow(1, 1, 1, 0, 0, 0);
        k.due("undo()", k.x.undo(), 1);
        k.dueChair(0, 0, 1);
        k.dueChair(1, 0, 3);
        // The CELL from which it came last is that of its STEP in the PLAN.
        k.plan("b e;b w;");
        k.due("judge(1)", k.x.judge(1), -1);
        k.plan("b e;");
        k.due("judge(1)", k.x.judge(1), -1);
        k.dueChair(1, 0, 4);
        k.plan("a e;a e;");
        k.due("judge(1)", k.x.judge(1), -1);
        // a on 3 was last on 2: b on 4 pushes it back there.
        k.x.on(1);
        k.dueMet(0, 1, 1, 0, 3, 1);
        k.dueChair(0, 0, 2);
    }

    private static void dueSaid(Check k, String sentence, int... want) {
        k.due("sentence() '" + sentence + "' is good", k.sentence(sentence) > 0, true);
        k.due("said(-1) of '" + sentence + "'", k.x.said(-1), want.length);
        for (int i = 0; i < want.length; i++) {
            k.due("said(" + i + ") of '" + sentence + "'", k.x.said(i), want[i]);
        }
        k.due("said(" + want.length + ") of '" + sentence + "'", k.x.said(want.length), -1);
    }

    private static void said() {
        Check k = new Check("33", NARROW + "chair a 0 0 3 1 4 0;chair b 4 0 5 2 0 0;chair c 2 0 0 9 2 0;chair d 1 0 0 0 0 0;"
            + "start d 99;sick c;law rank;");
        k.due("said(-1), no SENTENCE", k.x.said(-1), -1);
        k.due("said(0), no SENTENCE", k.x.said(0), -1);
        k.x.on(3);
        // b has pushed a back to 0 and is on 1; c is THERE; d is not out.
        dueSaid(k, "there", 2);
        dueSaid(k, "sick", 2);
        dueSaid(k, "not there", 0, 1, 3);
        dueSaid(k, "ahead a", 1, 2);
        dueSaid(k, "ahead d", 0, 1, 2);
        dueSaid(k, "ahead c");
        dueSaid(k, "rank>3", 1);
        dueSaid(k, "rank<1", 2, 3);
        dueSaid(k, "rank=3", 0);
        dueSaid(k, "load=9 or load=2", 1, 2);
        dueSaid(k, "come=3", 1);
        dueSaid(k, "come=1", 0);
        dueSaid(k, "backs=1", 0);
        dueSaid(k, "waits=1", 0);
        dueSaid(k, "waits<1", 1, 2, 3);
        // and binds closer than or; not binds closest.
        dueSaid(k, "sick or rank>3 and load<2", 2);
        dueSaid(k, "(sick or rank>3) and load<3", 1);
        dueSaid(k, "not sick and rank<1", 3);
        dueSaid(k, "not(sick and rank<1)", 0, 1, 3);
        dueSaid(k, "not not not sick or sick", 0, 1, 2, 3);
        k.due("said(-2)", k.x.said(-2), -1);
        k.due("said(9)", k.x.said(9), -1);
        // As of now.
        dueSaid(k, "come>0", 0, 1);
        k.x.undo();
        k.due("said(-1)", k.x.said(-1), 0);
    }

    private static void saidOfPlace() {
        Check k = new Check("33", "land 5 5;chair a 0 0 0 0 4 0;chair b 4 4 0 0 0 4;chair c 1 1 0 0 1 1;");
        dueSaidOfPlace(k);
        // a is on 1, b on 43, c is THERE: the CHAIR's number is told, not the CELL's.
        k.x.on(1);
        dueSaidOfPlace(k);
        k.x.on(4);
        dueSaidOfPlace(k);
    }

    private static void dueSaidOfPlace(Check k) {
        dueSaid(k, "place=0", 0);
        dueSaid(k, "place=1", 1);
        dueSaid(k, "place=2", 2);
        dueSaid(k, "place>0", 1, 2);
        dueSaid(k, "place<2", 0, 1);
        dueSaid(k, "place<1", 0);
        dueSaid(k, "place>2");
        dueSaid(k, "place=43");
        dueSaid(k, "not place=1 and place<999", 0, 2);
    }
}
