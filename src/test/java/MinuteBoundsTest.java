/** The bounds of MINUTES, each on both sides: starts, ROOM, rests, 100 and 499; 60 MEETINGS, 8 acts, many STEPS. */
public final class MinuteBoundsTest {
    private static final String NICHE = "land 5 2;wall 0 1;wall 1 1;wall 3 1;wall 4 1;";
    private static final String NARROW = NICHE + "wall 2 1;";
    private static final String KNOT = NARROW + "chair a 0 0 3 1 4 0;chair b 4 0 5 2 0 0;law rank;";

    public static void main(String[] args) {
        startsToTheMinute();
        roomForOne();
        roomForTwo();
        roomForOneThatSteps();
        roomForOneThatIsPushed();
        fromNowhereWithAllOut();
        stairsAndPlans();
        restsForOneMinute();
        firstOfLikeOnes();
        onTillTheLastMinute();
        behindTheLastMinute();
        thereInTheLastMinute();
        lentAtTheEnd();
        votedAtTheEnd();
        torchesAtTheEnd();
        oneWayAtTheEnd();
        latestTillTheEnd();
        beganWithin100();
        invitedWithin100();
        oddsWithin100();
        sixtyMeetings();
        sixtyMeetingsOfAnOddNumber();
        eightActs();
        whatIsAnAct();
        newAlleysAndActs();
        manySteps();
        Check.close("MinuteBoundsTest");
    }

    private static void goTo(Check k, int minute) {
        for (int i = 0; i < 6 && k.x.now(0) < minute; i++) {
            k.x.on(Math.min(100, minute - k.x.now(0)));
        }
        k.due("now(0)", k.x.now(0), minute);
    }

    /** "those whose start is this MINUTE or was": not a MINUTE sooner, nor later. */
    private static void startsToTheMinute() {
        for (int start : new int[] {0, 1, 2, 50, 98, 99}) {
            Check k = new Check("11", "land 3 2;chair a 0 0 0 0 2 0;start a " + start + ";chair b 1 1 0 0 1 1;start b " + start
                + ";");
            k.due("when(0)", k.x.when(0), start + 1);
            k.due("when(1)", k.x.when(1), start);
            k.due("last()", k.x.last(), start + 1);
            goTo(k, start);
            k.dueNow(start, 0, 0);
            k.dueChair(0, 0, -1);
            k.due("next(0), not out", k.x.next(0), -1);
            k.x.on(1);
            k.dueNow(start + 1, 1, 1);
            k.dueChair(0, 0, 1);
            k.dueChair(1, 9, start);
            k.x.on(1);
            k.dueChair(0, 9, start + 1);
            k.dueNow(start + 2, 0, 2);
        }
    }

    /** "There is ROOM on a CELL for one CHAIR": a second one comes out when the first is gone. */
    private static void roomForOne() {
        Check k = new Check("11", "land 4 2;chair a 0 0 0 0 3 0;chair b 0 0 0 0 3 0;chair c 0 0 0 0 3 0;");
        for (int minute = 0; minute < 3; minute++) {
            k.x.on(1);
            k.due("now(1) + now(2)", k.x.now(1) + k.x.now(2), minute + 1);
        }
        k.dueChair(0, 9, 2);
        k.dueChair(1, 0, 2);
        k.dueChair(2, 0, 1);
        // Who never leaves lets nobody come.
        k = new Check("11", "land 4 2;chair a 0 0 0 0 3 0;chair b 0 0 9 9 3 0;sick b;lane 0 0 n;");
        goTo(k, 499);
        k.dueNow(499, 1, 0, 0, 0, 499);
        k.dueCell(0, 4, 1);
        k.dueChair(1, 8, 0);
    }

    /** "for two, if it is wide": a third one does not come out. */
    private static void roomForTwo() {
        String three = "land 4 2;%schair a 0 0 0 0 3 0;chair b 0 0 0 0 3 0;chair c 0 0 9 0 3 0;lane 0 0 n;law rank;";
        Check k = new Check("11", String.format(three, "wide 0 0;"));
        k.x.on(3);
        k.dueCell(0, 4, 2);
        k.dueNow(3, 2, 0, 0, 0, 6);
        k.dueChair(2, 0, -1);
        // One of them is gone: the third one comes.
        k.x.lane(0, -1);
        k.x.on(1);
        k.dueNow(4, 2, 0, 0, 0, 7);
        k.x.on(1);
        k.due("now(1)", k.x.now(1), 3);
        k = new Check("11", String.format(three, "wide 1 0;"));
        k.x.on(3);
        k.dueCell(0, 4, 1);
        k.dueNow(3, 1, 0, 0, 0, 3);
    }

    /** Nobody steps to a CELL that is full, and a third one not to one that is wide. */
    private static void roomForOneThatSteps() {
        String four = "land 4 2;%swall 0 1;wall 2 1;wall 3 1;chair a 2 0 0 0 1 1;chair b 1 0 0 0 3 0;chair c 0 0 0 0 3 0;wall 1 1;";
        Check k = new Check("11", String.format(four, ""));
        // a has no WAY and stands on 2; b waits on 1, c on 0.
        k.x.on(5);
        k.dueNow(5, 3, 0, 0, 0, 15);
        k = new Check("11", String.format(four, "wide 2 0;"));
        k.x.on(5);
        // b passes on the wide CELL, and so does c.
        k.dueNow(5, 1, 2, 0, 0, 5);
        // Two stand on it for ever: c waits.
        k = new Check("11", String.format(four, "wide 2 0;") + "lane 2 0 n;");
        k.x.on(1);
        k.dueCell(2, 4, 1);
        k.x.lane(2, -1);
        k.x.on(1);
        k.dueCell(2, 4, 2);
        k.x.lane(2, 0);
        k.x.on(3);
        k.dueCell(2, 4, 2);
        k.dueNow(5, 3, 0);
    }

    /** "the CELL from which it came last has ROOM": one less, and it is not pushed. */
    private static void roomForOneThatIsPushed() {
        // a came from the niche to 2 and is barred there by d; b, of a greater rank, comes from 1.
        String text = "land 5 3;wall 0 1;wall 1 1;wall 3 1;wall 0 2;wall 1 2;wall 3 2;wall 4 2;%schair d 3 0 0 0 4 1;"
            + "wall 4 1;chair a 2 1 1 0 4 0;chair b 0 0 9 0 4 0;chair c 2 2 0 0 4 0;law rank;";
        Check k = new Check("11", String.format(text, ""));
        k.x.on(1);
        k.dueChair(1, 0, 2);
        k.dueChair(2, 0, 1);
        k.dueChair(3, 0, 12);
        k.x.on(1);
        // c stands on the niche: a is not pushed, and b waits, which is no MEETING.
        k.dueChair(1, 0, 2);
        k.dueChair(2, 0, 1);
        k.due("now(3)", k.x.now(3), 0);
        k.dueChair(2, 8, 1);
        // The niche is wide: there is ROOM for a, too.
        k = new Check("11", String.format(text, "wide 2 1;"));
        k.x.on(2);
        k.dueMet(0, 1, 2, 1, 2, 1);
        k.dueChair(1, 0, 12);
        k.dueChair(2, 0, 2);
        k.dueCell(12, 4, 2);
        // It has come from nowhere then: a second one can't push it.
        k.dueChair(1, 7, 1);
    }

    /** Who has come from nowhere can't be pushed there: with eight CHAIRS out, too. */
    private static void fromNowhereWithAllOut() {
        for (int count = 2; count <= 8; count++) {
            StringBuilder text = new StringBuilder("land 9 2;chair a 0 0 9 0 2 0;chair b 1 0 0 0 8 1;");
            for (int c = 2; c < count; c++) {
                text.append("chair q").append((char) ('a' + c)).append(' ').append(c + 1).append(" 0 0 0 8 1;");
            }
            Check k = new Check("11", text + "wall 8 1;law rank;");
            k.x.on(5);
            k.dueNow(5, count, 0, 0, 0, 5 * count);
            k.dueChair(0, 0, 0);
            k.dueChair(1, 0, 1);
            k.dueChair(1, 7, 0);
        }
    }

    /** A STEP of a PLAN is in no MINUTE: it brings no rest, and takes none away. */
    private static void stairsAndPlans() {
        Check k = new Check("11, 30", NARROW + "stairs 2 0;chair a 0 0 0 0 4 0;");
        k.x.on(1);
        k.plan("a e;");
        k.due("judge(1), to the stairs", k.x.judge(1), -1);
        k.dueChair(0, 0, 2);
        k.x.on(1);
        k.dueChair(0, 0, 3);
        k.x.on(1);
        k.dueChair(0, 9, 2);
        k = new Check("11, 30", NARROW + "stairs 1 0;chair a 0 0 0 0 4 0;");
        k.x.on(1);
        k.plan("a e;");
        k.due("judge(1), from the stairs", k.x.judge(1), -1);
        k.dueChair(0, 0, 2);
        k.x.on(1);
        k.dueChair(0, 0, 2);
        k.dueChair(0, 8, 0);
        k.x.on(1);
        k.dueChair(0, 0, 3);
    }

    /** "one that came to stairs in the MINUTE ahead .. rests": for one MINUTE, and what rests does not wait. */
    private static void restsForOneMinute() {
        for (int stairs = 0; stairs <= 3; stairs++) {
            StringBuilder text = new StringBuilder(NARROW + "chair a 0 0 0 0 4 0;");
            for (int x = 1; x <= stairs; x++) {
                text.append("stairs ").append(x).append(" 0;");
            }
            Check k = new Check("11", text.toString());
            k.due("when(0), " + stairs + " stairs", k.x.when(0), 3 + stairs);
            k.x.on(10);
            k.dueChair(0, 8, 0);
        }
        // Stairs on which it is bound, or from which it sets out, cost nothing.
        Check k = new Check("11", NARROW + "chair a 0 0 0 0 4 0;stairs 0 0;stairs 4 0;");
        k.due("when(0)", k.x.when(0), 3);
        // It rests once, and then waits: b stands on 2 for ever.
        k = new Check("11", "land 5 2;chair a 0 0 0 0 4 0;chair b 2 0 0 0 0 1;wall 0 1;wall 1 1;wall 2 1;wall 3 1;wall 4 1;"
            + "stairs 1 0;");
        k.x.on(1);
        k.dueChair(0, 0, 1);
        k.x.on(1);
        k.dueChair(0, 8, 0);
        k.x.on(1);
        k.dueChair(0, 8, 1);
        k.x.on(1);
        k.dueChair(0, 8, 2);
    }

    /** "of like ones the first": of CHAIRS, and of n, e, s, w. */
    private static void firstOfLikeOnes() {
        Check k = new Check("10, 11", "land 3 3;chair a 1 0 5 5 1 2;chair b 0 1 5 5 2 1;chair c 2 1 5 5 0 1;law rank load come;");
        k.dueOrder(0, 1, 2);
        k.x.on(1);
        k.dueChair(0, 0, 11);
        // b and c wait for it, and meet nobody: a goes on to the south.
        k.dueNow(1, 3, 0, 0, 0, 2);
        int[][] turns = {{11, 22, 12}, {11, 20, 21}, {11, 0, 1}, {11, 2, 1}, {0, 11, 1}, {22, 11, 12}};
        for (int[] t : turns) {
            k = new Check("9", "land 3 3;chair a " + t[0] % 10 + " " + t[0] / 10 + " 0 0 " + t[1] % 10 + " " + t[1] / 10 + ";");
            k.x.on(1);
            k.dueChair(0, 0, t[2]);
        }
    }

    /** "how many did (499 is the last)". */
    private static void onTillTheLastMinute() {
        for (int minute = 398; minute <= 500; minute++) {
            Check k = new Check("11", KNOT);
            goTo(k, minute);
            int left = 500 - minute;
            k.due("on(100) from " + minute, k.x.on(100), Math.min(left, 100));
            k.due("now(0)", k.x.now(0), Math.min(minute + 100, 500));
        }
        for (int n : new int[] {1, 2, 3, 99, 100}) {
            Check k = new Check("11", KNOT);
            goTo(k, 498);
            k.due("on(" + n + ") from 498", k.x.on(n), Math.min(n, 2));
            k.due("on(" + n + ")", k.x.on(n), n == 1 ? 1 : 0);
            k.due("on(" + n + ") behind 499", k.x.on(n), 0);
            k.due("now(0)", k.x.now(0), 500);
        }
    }

    /** Behind MINUTE 499 no MINUTE goes by, but all else is as ever. */
    private static void behindTheLastMinute() {
        Check k = new Check("11 to 15", KNOT);
        goTo(k, 500);
        // b meets a in MINUTE 1, a is pushed in 2, and behind it there are two MEETINGS in each.
        k.dueNow(500, 2, 0, 2 + 2 * 497, 1, 1 + 2 * 497);
        k.due("undo()", k.x.undo(), 4);
        k.due("on(100)", k.x.on(100), 100);
        k.due("on(1)", k.x.on(1), 0);
        k.due("undo(), on() of 0 is no act", k.x.undo(), 4);
        k.x.on(100);
        k.due("last()", k.x.last(), 500);
        k.due("when(1)", k.x.when(1), 500);
        k.due("lane(0, 1)", k.x.lane(0, 1), true);
        k.due("undo()", k.x.undo(), 5);
        k.due("plan()", k.plan("b e;"), 1);
        k.due("judge(1)", k.x.judge(1), -1);
        k.dueChair(1, 0, 2);
        k.due("undo()", k.x.undo(), 5);
        k.due("drawn(1)", k.x.drawn(1), true);
        k.due("now(0)", k.x.now(0), 0);
        k.due("on(100)", k.x.on(100), 100);
        k.due("undo()", k.x.undo(), 6);
        k.due("undo()", k.x.undo(), 5);
        k.due("now(0)", k.x.now(0), 500);
        k.due("image(0)", k.x.image(0), true);
        k.due("restore(0)", k.x.restore(0), true);
        k.due("now(0)", k.x.now(0), 500);
        k.due("on(1)", k.x.on(1), 0);
        k.due("undo()", k.x.undo(), -1);
    }

    /** A lane holds a till a MINUTE; then it is four STEPS, and so THERE three MINUTES later. */
    private static Check heldTill(int minute) {
        Check k = new Check("19, 25", NARROW + "lane 0 0 w;chair a 0 0 0 0 4 0;");
        goTo(k, minute);
        k.due("when(0), held", k.x.when(0), 500);
        k.due("last(), held", k.x.last(), 500);
        k.x.lane(0, -1);
        return k;
    }

    /** "500: not by 499". */
    private static void thereInTheLastMinute() {
        for (int minute = 490; minute <= 500; minute++) {
            Check k = heldTill(minute);
            int due = minute <= 496 ? minute + 3 : 500;
            k.due("when(0) from " + minute, k.x.when(0), due);
            k.due("last() from " + minute, k.x.last(), due);
            k.due("on(100)", k.x.on(100), 500 - minute);
            k.dueChair(0, 9, due < 500 ? due : -1);
            k.due("now(2)", k.x.now(2), due < 500 ? 1 : 0);
            k.due("last()", k.x.last(), due < 500 ? -1 : 500);
            k.due("when(0)", k.x.when(0), due < 500 ? -1 : 500);
        }
    }

    /** "(below 0: later; not THERE by 499: 500)". */
    private static void lentAtTheEnd() {
        for (int minute = 494; minute <= 500; minute++) {
            Check k = new Check("22", "land 4 2;wall 0 1;wall 2 1;wall 3 1;lane 0 0 w;lane 1 1 s;chair a 0 0 1 0 3 0;"
                + "chair b 1 1 2 0 3 0;law rank;");
            goTo(k, minute);
            k.x.lane(0, -1);
            k.x.lane(11, -1);
            // a would be THERE 3 MINUTES later, or 2 with the rank of b; and b the other way round.
            int late = Math.min(minute + 3, 500);
            int soon = Math.min(minute + 2, 500);
            k.due("when(0) from " + minute, k.x.when(0), late);
            k.due("when(1) from " + minute, k.x.when(1), soon);
            k.due("lent(0, 1) from " + minute, k.x.lent(0, 1), late - soon);
            k.due("lent(1, 0) from " + minute, k.x.lent(1, 0), soon - late);
        }
    }

    /** Who would be THERE in MINUTE 499 without another one is for it; who would not, is not. */
    private static void votedAtTheEnd() {
        for (int minute = 490; minute <= 500; minute++) {
            Check k = new Check("24", NICHE.replace("wall 1 1;", "") + "lane 0 0 w;lane 1 0 n;chair a 0 0 0 0 4 0;"
                + "chair c 1 0 0 0 4 0;chair b 2 0 0 0 1 1;wall 1 1;");
            goTo(k, minute);
            k.x.lane(0, -1);
            k.x.lane(1, -1);
            // Without b, a needs five MINUTES, for it waits for c, and c three: both are for it till 495, c alone till 497.
            k.due("voted(2) from " + minute, k.x.voted(2), minute <= 495 ? 1 : 0);
        }
    }

    /** Both at REST, if nobody can be THERE by 499. */
    private static void torchesAtTheEnd() {
        for (int minute = 488; minute <= 500; minute++) {
            Check k = new Check("23", "land 4 2;lane 0 0 n;lane 0 1 s;chair a 0 0 0 0 3 0;chair b 0 1 0 0 3 1;");
            goTo(k, minute);
            k.x.lane(0, -1);
            k.x.lane(10, -1);
            // They do not mind each other: three STEPS each, THERE two MINUTES later, by 499 till 497.
            k.due("torches(0, 1, 1, -1) from " + minute, k.x.torches(0, 1, 1, -1), minute <= 497 ? 1 : 4);
            k.due("torches(0, 1, 1, 0) from " + minute, k.x.torches(0, 1, 1, 0), 0);
            k.due("torches(0, 1, 20, -1) from " + minute, k.x.torches(0, 1, 20, -1), minute <= 497 ? 1 : 4);
        }
    }

    /** "(not by 499: as 500), then with fewest waits". */
    private static void oneWayAtTheEnd() {
        for (int minute = 488; minute <= 500; minute++) {
            Check k = new Check("18", "land 3 3;wall 1 1;lane 0 0 n;lane 2 0 n;chair a 0 0 1 0 2 0;chair b 2 0 2 0 0 0;");
            goTo(k, minute);
            k.x.lane(0, -1);
            k.x.lane(2, -1);
            k.due("last()", k.x.last(), 500);
            // a goes round in six STEPS; if it is not THERE then, it has not waited at least, while MINUTES are left.
            k.due("oneWay() from " + minute, k.x.oneWay(), minute <= 499 ? 2 : -1);
            k.x.lane(0, 2);
            k.due("last() from " + minute, k.x.last(), minute <= 494 ? minute + 5 : 500);
        }
    }

    /** "from now on till 499 (all its waits counted; of like ones the first)". */
    private static void latestTillTheEnd() {
        for (int start = 95; start <= 99; start++) {
            for (int minute = 399; minute <= 404; minute++) {
                // a waits till it is let go; b, from its start on, till 499.
                Check k = new Check("26", "land 3 2;lane 0 0 n;chair a 0 0 0 0 2 0;lane 0 1 s;chair b 0 1 0 0 2 1;start b "
                    + start + ";");
                goTo(k, minute);
                k.x.lane(0, -1);
                k.dueChair(0, 8, minute);
                k.due("latest(), b from " + start + ", a till " + minute, k.x.latest(), 500 - start > minute ? 1 : 0);
            }
        }
    }

    /** "no MEETING within 100 MINUTES": MINUTE 99 is within, MINUTE 100 is not. */
    private static void beganWithin100() {
        for (int start = 95; start <= 99; start++) {
            // On three CELLS b meets a in the MINUTE in which both set out; on four one later; c minds nobody.
            String three = "land 3 2;wall 0 1;wall 1 1;chair a 0 0 0 0 2 0;chair b 2 0 0 0 0 0;chair c 2 1 0 0 2 1;";
            String four = "land 4 2;wall 0 1;wall 1 1;wall 2 1;chair a 0 0 0 0 3 0;chair b 3 0 0 0 0 0;chair c 3 1 0 0 3 1;";
            String both = "start a " + start + ";start b " + start + ";";
            Check k = new Check("21", three + both);
            k.due("began(), in MINUTE " + start, k.x.began(), 3);
            k = new Check("21", four + both);
            k.due("began(), in MINUTE " + (start + 1), k.x.began(), start + 1 <= 99 ? 3 : 7);
            goTo(k, start + 1);
            k.due("now(3)", k.x.now(3), 0);
            k.x.on(1);
            k.due("now(3) > 0", k.x.now(3) > 0, true);
            k.dueMet(0, start + 1);
        }
    }

    /**
     * a is barred by c, which has no WAY, and b comes to push it in MINUTE 90 and so many STEPS less one, if it sets out
     * three spans of 30 later.
     */
    private static void invitedWithin100() {
        StringBuilder land = new StringBuilder("land 10 4;");
        for (int x = 1; x < 9; x++) {
            land.append("wall ").append(x).append(" 1;");
        }
        for (int x = 0; x < 10; x++) {
            land.append(x == 7 ? "" : "wall " + x + " 3;");
        }
        for (int x = 0; x <= 6; x++) {
            int steps = 13 - x;
            Check k = new Check("20", land + "chair c 6 2 0 0 0 1;wall 0 1;chair a 7 3 0 0 0 2;chair b " + x
                + " 0 9 0 0 2;law rank;start b 90;");
            goTo(k, 90 + steps - 1);
            k.due("now(3)", k.x.now(3), 0);
            k.x.on(1);
            k.due("now(4)", k.x.now(4), 1);
            k.dueMet(0, 90 + steps - 1, 2, 1, 27, 1);
            // If it is within, a must come later: then b stands there ahead of it, and nobody meets.
            k.due("invited(30), " + steps + " STEPS", k.x.invited(30), 90 + steps - 1 <= 99 ? 4 : 3);
        }
    }

    /** Lanes make a way of 86 STEPS; by seed 45 c sets out in MINUTE 1, a in 6 and b in 19. */
    private static void oddsWithin100() {
        for (int first = 2; first <= 7; first++) {
            Check k = new Check("28", "land 10 10;chair c 7 8 0 0 0 9;wall 0 9;chair a 6 9 0 0 8 8;chair b " + first
                + " 0 9 0 8 8;law rank;");
            for (int at = 0; at < 88; at++) {
                int x = at % 10;
                boolean east = at / 10 % 2 == 0;
                k.x.lane(at, x == (east ? 9 : 0) ? 2 : east ? 1 : 3);
            }
            k.due("way", k.x.way(first, 86), 86 - first);
            int minute = 19 + 86 - first - 1;
            k.due("odds(1, 45), in MINUTE " + minute, k.x.odds(1, 45), minute <= 99 ? 1 : 0);
            k.x.drawn(45);
            k.dueChair(0, 4, 1);
            k.dueChair(1, 4, 6);
            k.dueChair(2, 4, 19);
            goTo(k, minute);
            k.due("now(3)", k.x.now(3), 0);
            k.x.on(1);
            k.dueMet(0, minute, 2, 1, 86, 1);
        }
    }

    /** "the first 60 are kept": the 60th is, the 61st is not, and all are counted. */
    private static void sixtyMeetings() {
        Check k = new Check("13", KNOT);
        goTo(k, 31);
        k.due("now(3)", k.x.now(3), 58);
        k.dueMet(57, 30, 0, 1, 1, 0);
        k.dueMet(58, -1, -1, -1, -1, -1);
        k.x.on(1);
        k.due("now(3)", k.x.now(3), 60);
        k.dueMet(58, 31, 1, 0, 0, 0);
        k.dueMet(59, 31, 0, 1, 1, 0);
        k.dueMet(60, -1, -1, -1, -1, -1);
        k.x.on(1);
        k.due("now(3)", k.x.now(3), 62);
        k.dueMet(59, 31, 0, 1, 1, 0);
        k.dueMet(60, -1, -1, -1, -1, -1);
        k.dueMet(61, -1, -1, -1, -1, -1);
        k.dueMet(0, 1, 0, 1, 2, 0);
        k.dueMet(1, 2, 1, 0, 1, 1);
        k.x.on(100);
        k.due("now(3)", k.x.now(3), 262);
        k.dueMet(59, 31, 0, 1, 1, 0);
        k.dueMet(60, -1);
        k.dueMet(261, -1);
        k.dueMet(262, -1);
        // They are kept in images, and come back by undo().
        k.x.image(0);
        k.x.drawn(1);
        k.dueMet(0, -1);
        k.due("undo()", k.x.undo(), 4);
        k.dueMet(59, 31, 0, 1, 1, 0);
        k.dueMet(60, -1);
        k.alleys("land 2 2;");
        k.dueMet(0, -1);
        k.x.restore(0);
        k.due("now(3)", k.x.now(3), 262);
        k.dueMet(0, 1, 0, 1, 2, 0);
        k.dueMet(59, 31, 0, 1, 1, 0);
        k.dueMet(60, -1);
    }

    private static void sixtyMeetingsOfAnOddNumber() {
        // a rests once, when it is pushed to the stairs: there is one MEETING less.
        Check k = new Check("13", KNOT + "stairs 0 0;");
        goTo(k, 32);
        k.due("now(3)", k.x.now(3), 59);
        k.dueMet(58, 31, 0, 1, 1, 0);
        k.dueMet(59, -1, -1, -1, -1, -1);
        k.x.on(1);
        k.due("now(3)", k.x.now(3), 61);
        k.dueMet(59, 32, 1, 0, 0, 0);
        k.dueMet(60, -1, -1, -1, -1, -1);
    }

    /** "8 at most are kept". */
    private static void eightActs() {
        for (int acts = 0; acts <= 20; acts++) {
            Check k = new Check("14", KNOT);
            for (int i = 0; i < acts; i++) {
                k.x.on(1 + i % 3);
            }
            int kept = Math.min(acts, 8);
            for (int i = kept - 1; i >= 0; i--) {
                k.due("undo() of " + acts, k.x.undo(), i);
                int left = acts - (kept - i);
                k.due("now(0)", k.x.now(0), left / 3 * 6 + (left % 3 == 0 ? 0 : left % 3 == 1 ? 1 : 3));
            }
            k.due("undo() of " + acts + ", none is", k.x.undo(), -1);
            k.due("undo() of " + acts + ", none is, again", k.x.undo(), -1);
            k.x.on(1);
            k.due("undo()", k.x.undo(), 0);
        }
        // Seven more behind one that was undone, and one.
        Check k = new Check("14", KNOT);
        for (int i = 0; i < 8; i++) {
            k.x.on(1);
        }
        k.due("undo()", k.x.undo(), 7);
        k.x.lane(1, 1);
        k.x.lane(1, 2);
        k.due("undo()", k.x.undo(), 7);
        k.dueCell(1, 3, 1);
        k.due("now(0)", k.x.now(0), 7);
        k.due("undo()", k.x.undo(), 6);
        k.dueCell(1, 3, -1);
        for (int i = 5; i >= 0; i--) {
            k.due("undo()", k.x.undo(), i);
        }
        k.due("now(0)", k.x.now(0), 1);
        k.due("undo()", k.x.undo(), -1);
    }

    /** "on() above 0, lane(), a PLAN that was lived, drawn() that was done": and nothing else. */
    private static void whatIsAnAct() {
        Check k = new Check("14", KNOT);
        int acts = 0;
        k.x.on(1);
        acts++;
        k.x.lane(1, 1);
        acts++;
        k.plan("b e;b w;b w;b w;b w;");
        k.due("judge(1), WRONG somewhere", k.x.judge(1), 3);
        acts++;
        k.x.drawn(3);
        acts++;
        // None of these is one.
        k.x.on(0);
        k.x.lane(1, 1);
        k.x.lane(10, 1);
        k.x.judge(0);
        k.x.judge(1);
        k.x.judge(2);
        k.sentence("sick");
        k.plan("a n;");
        k.alleys("x");
        k.x.image(0);
        k.x.untied();
        k.x.oneWay();
        k.x.odds(3, 3);
        k.x.restore(1);
        for (int i = acts - 1; i >= 0; i--) {
            k.due("undo()", k.x.undo(), i);
        }
        k.due("undo()", k.x.undo(), -1);
        k.dueNow(0, 0, 0, 0, 0, 0);
        k.due("count(6)", k.x.count(6), 0);
        k.due("count(7): PLANS are not undone", k.x.count(7), 1);
        k.due("said(-1): nor are SENTENCES", k.x.said(-1), 0);
    }

    private static void newAlleysAndActs() {
        Check k = new Check("4, 14", KNOT);
        k.x.on(5);
        k.x.lane(1, 1);
        k.plan("a e;");
        k.sentence("sick");
        k.due("alleys()", k.alleys(KNOT), 9);
        k.dueNow(0, 0, 0, 0, 0, 0);
        k.due("count(6)", k.x.count(6), 0);
        k.due("count(7)", k.x.count(7), 0);
        k.due("said(-1)", k.x.said(-1), -1);
        k.dueMet(0, -1);
        k.due("undo()", k.x.undo(), -1);
        k.dueChair(0, 6, 0);
        // The same ones of an empty tape.
        k.x.on(5);
        k.due("alleys()", k.x.alleys(), 0);
        k.dueNow(0, 0, 0, 0, 0, 0);
        k.due("undo()", k.x.undo(), -1);
    }

    /** By PLANS a CHAIR comes more STEPS than a NUMBER can tell; it is behind sick ones and greater loads all the same. */
    private static void manySteps() {
        Check k = new Check("10, 33", NICHE + "chair a 0 0 0 0 4 0;chair b 4 0 0 1 0 0;lane 0 0 w;lane 4 0 e;chair c 2 1 0 0 0 0;"
            + "start c 99;sick c;law load come;");
        k.x.on(1);
        k.x.lane(0, -1);
        k.plan("a e;a w;".repeat(20));
        for (int i = 0; i < 24; i++) {
            k.x.judge(1);
        }
        k.dueChair(0, 6, 960);
        k.sentence("come>959 and come<961");
        k.due("said(-1)", k.x.said(-1), 1);
        k.sentence("come>999");
        k.due("said(-1)", k.x.said(-1), 0);
        k.x.judge(1);
        k.dueChair(0, 6, 1000);
        k.due("said(-1)", k.x.said(-1), 1);
        k.dueOrder(2, 1, 0);
        for (int i = 0; i < 425; i++) {
            k.x.judge(1);
        }
        k.dueChair(0, 6, 18000);
        k.dueOrder(2, 1, 0);
        k.due("undo()", k.x.undo(), 7);
    }
}
