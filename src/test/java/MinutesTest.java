/** Promises 6 to 15 and 34 to 36: what is so, MINUTES one by one, acts undone, images. */
public final class MinutesTest {
    /** A narrow way of five CELLS with a niche below its middle. */
    private static final String NICHE = "land 5 2;wall 0 1;wall 1 1;wall 3 1;wall 4 1;";
    /** A narrow way of five CELLS, and nothing else. */
    private static final String NARROW = NICHE + "wall 2 1;";

    public static void main(String[] args) {
        chairsAndCells();
        ways();
        lanesAndWays();
        order();
        orderByCome();
        startsAndRoom();
        thereAtOnce();
        laterOfTwo();
        aPush();
        noPush();
        pushesOfTwo();
        stairs();
        pushedOntoStairs();
        wide();
        onTheWall();
        thereBehindTheMinute();
        theLastMinute();
        meetingsKept();
        lanes();
        undo();
        images();
        Check.close("MinutesTest");
    }

    private static void chairsAndCells() {
        Check k = new Check("6, 7", "land 3 2;wall 1 1;stairs 2 0;wide 2 1;lane 0 1 n;chair a 0 0 4 5 2 1;start a 2;sick a;");
        int[] due = {-1, 4, 5, 12, 2, 1, 0, 0, 0, -1, Check.THROWN};
        for (int what = 0; what < due.length; what++) {
            k.dueChair(0, what, due[what]);
        }
        k.dueChair(0, -1, Check.THROWN);
        k.dueChair(1, 0, Check.THROWN);
        k.dueChair(-1, 0, Check.THROWN);
        k.dueChair(Integer.MAX_VALUE, 0, Check.THROWN);
        k.dueCell(11, 0, 1);
        k.dueCell(2, 1, 1);
        k.dueCell(12, 2, 1);
        k.dueCell(10, 3, 0);
        k.dueCell(0, 3, -1);
        k.dueCell(0, 4, 0);
        for (int what = 0; what < 3; what++) {
            k.dueCell(0, what, 0);
        }
        k.dueCell(0, 5, Check.THROWN);
        k.dueCell(0, -1, Check.THROWN);
        for (int at : new int[] {-1, 3, 9, 13, 20, 100, Integer.MIN_VALUE, Integer.MAX_VALUE}) {
            k.dueCell(at, 0, Check.THROWN);
        }
        k.x.on(3);
        k.dueCell(1, 4, 1);
        k.dueCell(0, 4, 0);
        k.dueChair(0, 0, 1);
        k.dueChair(0, 6, 1);
        k.x.on(2);
        k.dueChair(0, 0, 2);
        k.x.on(1);
        k.dueChair(0, 0, -1);
        k.dueChair(0, 9, 5);
        k.dueChair(0, 6, 3);
    }

    private static void ways() {
        Check k = new Check("8, 9", "land 3 3;wall 1 1;chair a 0 0 0 0 2 2;chair b 2 2 0 0 0 0;chair c 0 2 0 0 2 0;"
            + "start c 1;");
        k.due("way(0, 22)", k.x.way(0, 22), 4);
        k.due("way(22, 0)", k.x.way(22, 0), 4);
        k.due("way(1, 21)", k.x.way(1, 21), 4);
        k.due("way(0, 0)", k.x.way(0, 0), 0);
        k.due("way(11, 11)", k.x.way(11, 11), -1);
        k.due("way(0, 11)", k.x.way(0, 11), -1);
        k.due("way(11, 0)", k.x.way(11, 0), -1);
        k.due("way(0, 3)", k.x.way(0, 3), -1);
        k.due("way(-1, 0)", k.x.way(-1, 0), -1);
        k.due("way(30, 0)", k.x.way(30, 0), -1);
        k.due("next(0), not out", k.x.next(0), -1);
        // Of like ways the first STEP that is first of n, e, s, w.
        k.x.on(1);
        k.dueChair(0, 0, 1);
        k.dueChair(1, 0, 12);
        k.due("next(0)", k.x.next(0), 2);
        k.due("next(1)", k.x.next(1), 2);
        k.due("next(2)", k.x.next(2), -1);
        k.due("next(3)", k.x.next(3), -1);
        k.due("next(-1)", k.x.next(-1), -1);
        k.x.on(1);
        k.dueChair(2, 0, 10);
        k.due("next(2)", k.x.next(2), 0);
    }

    private static void lanesAndWays() {
        Check k = new Check("8, 15", "land 3 3;wall 1 1;lane 0 0 s;chair a 0 0 0 0 2 0;");
        k.due("way(0, 2)", k.x.way(0, 2), 6);
        k.due("way(2, 0)", k.x.way(2, 0), 2);
        k.due("way(0, 1)", k.x.way(0, 1), 7);
        k.due("lane(10, 0)", k.x.lane(10, 0), true);
        k.due("way(0, 2)", k.x.way(0, 2), -1);
        k.due("lane(0, -1)", k.x.lane(0, -1), true);
        k.due("way(0, 2)", k.x.way(0, 2), 2);
        k.due("lane(0, 3)", k.x.lane(0, 3), true);
        k.due("way(0, 2)", k.x.way(0, 2), -1);
        k.x.on(2);
        k.dueChair(0, 0, 0);
        k.due("next(0)", k.x.next(0), -1);
        k.dueChair(0, 8, 2);
    }

    private static void order() {
        String four = "land 4 4;chair a 0 0 1 5 3 3;chair b 1 0 1 7 3 3;chair c 2 0 2 0 3 3;chair d 3 0 0 0 3 3;";
        Check k = new Check("10", four + "sick d;law rank load;");
        k.dueOrder(3, 2, 1, 0, -1);
        k.due("order(-1)", k.x.order(-1), -1);
        k.due("order(8)", k.x.order(8), -1);
        k = new Check("10", four + "sick d;law load rank;");
        k.dueOrder(3, 1, 0, 2);
        k = new Check("10", four + "law rank;");
        k.dueOrder(2, 0, 1, 3);
        k = new Check("10", four);
        k.dueOrder(0, 1, 2, 3);
        k = new Check("10", four + "sick c;sick b;law come;");
        k.dueOrder(1, 2, 0, 3);
    }

    private static void orderByCome() {
        Check k = new Check("10", "land 9 2;chair a 0 0 0 0 8 0;chair b 0 1 9 9 8 1;start a 2;law come rank;");
        k.dueOrder(1, 0);
        k.x.on(2);
        k.dueOrder(1, 0);
        k = new Check("10", "land 9 2;chair a 0 0 0 0 8 0;chair b 0 1 9 9 8 1;start b 1;law come rank;");
        k.x.on(1);
        k.dueOrder(0, 1);
        k.x.on(1);
        k.dueChair(0, 6, 2);
        k.dueChair(1, 6, 1);
        k.dueOrder(0, 1);
    }

    private static void startsAndRoom() {
        Check k = new Check("11", NARROW + "chair a 0 0 0 0 4 0;chair b 0 0 9 9 3 0;start b 1;chair c 1 0 0 0 1 0;start c 1;");
        k.x.on(1);
        k.dueNow(1, 1, 0, 0, 0, 0);
        // b comes to 0; on 1 is a, but c, which is there already where it is bound, needs no ROOM.
        k.x.on(1);
        k.dueChair(0, 0, 2);
        k.dueChair(1, 0, 1);
        k.dueChair(2, 9, 1);
        k.dueChair(2, 0, -1);
        k.dueNow(2, 2, 1, 0, 0, 0);
        k.x.on(1);
        k.dueChair(1, 0, 2);
        k.x.on(1);
        k.dueNow(4, 0, 3);
        k.dueChair(0, 9, 3);
        k.dueChair(1, 9, 3);
        for (int n : new int[] {0, -1, 101, Integer.MIN_VALUE}) {
            k.due("on(" + n + ")", k.x.on(n), -1);
        }
        k.due("now(6)", k.x.now(6), -1);
        k.due("now(-1)", k.x.now(-1), -1);
    }

    /** Who sets out where it is bound is THERE in the MINUTE of its start, whoever stands there, and in nobody's way. */
    private static void thereAtOnce() {
        // a has no WAY and stands on 0 for good.
        String wall = "land 2 2;wall 1 0;chair a 0 0 0 0 1 1;wall 1 1;";
        Check k = new Check("6, 11", wall + "chair b 0 0 0 0 0 0;chair c 0 0 9 9 0 1;chair d 0 0 0 0 0 0;start d 5;");
        k.due("when(1)", k.x.when(1), 0);
        k.due("when(2)", k.x.when(2), 500);
        k.due("when(3)", k.x.when(3), 5);
        k.x.on(1);
        k.dueChair(1, 9, 0);
        k.dueChair(1, 0, -1);
        k.dueChair(1, 6, 0);
        k.dueChair(2, 0, -1);
        k.dueChair(2, 9, -1);
        k.dueCell(0, 4, 1);
        k.dueNow(1, 1, 1, 0, 0, 1);
        k.x.on(4);
        k.dueChair(3, 9, -1);
        k.x.on(1);
        k.dueChair(3, 9, 5);
        k.dueNow(6, 1, 2, 0, 0, 6);
        // b takes no ROOM from a, which comes out behind it.
        k = new Check("6, 11", "land 2 2;chair b 0 0 0 0 0 0;chair a 0 0 0 0 1 0;");
        k.x.on(1);
        k.dueChair(0, 9, 0);
        k.dueChair(1, 9, 0);
        k.due("last()", k.x.last(), -1);
    }

    /** Who of two is later is said by the order in which the MINUTE began, not by STEPS come in it. */
    private static void laterOfTwo() {
        String three = "land 3 2;wide 1 0;wall 0 1;law come;chair a 1 0 0 0 ";
        // a has no WAY; b steps to it; c looks at b, which would step to where c is.
        Check k = new Check("12, 13", three + "1 1;chair b 0 0 0 0 2 0;chair c 2 0 0 0 0 0;wall 1 1;");
        k.dueOrder(0, 1, 2);
        k.x.on(1);
        k.dueNow(1, 3, 0, 1, 0, 2);
        k.dueMet(0, 0, 2, 1, 1, 0);
        k.dueOrder(1, 0, 2);
        // a meets c; b steps to a, bound for the CELL below; c looks at b, which it does not meet.
        k = new Check("12, 13", three + "2 0;chair b 0 0 0 0 1 1;chair c 2 0 0 0 0 0;");
        k.x.on(1);
        k.dueCell(1, 4, 2);
        k.dueNow(1, 3, 0, 1, 0, 2);
        k.dueMet(0, 0, 0, 2, 2, 0);
        k.dueMet(1, -1);
    }

    /** b pushes a back, then stands before it, for a has come from nowhere. */
    private static void aPush() {
        Check k = new Check("11, 12, 13", NARROW + "chair a 0 0 3 1 4 0;chair b 4 0 5 2 0 0;law rank;");
        k.x.on(1);
        k.dueChair(0, 0, 1);
        k.dueChair(1, 0, 3);
        k.x.on(1);
        k.dueMet(0, 1, 0, 1, 2, 0, -1);
        k.x.on(1);
        k.dueMet(1, 2, 1, 0, 1, 1);
        k.dueChair(0, 0, 0);
        k.dueChair(0, 6, 1);
        k.dueChair(0, 7, 1);
        k.dueChair(0, 8, 1);
        k.dueChair(1, 0, 1);
        k.dueNow(3, 2, 0, 2, 1, 1);
        k.x.on(1);
        k.dueMet(2, 3, 1, 0, 0, 0);
        k.dueMet(3, 3, 0, 1, 1, 0);
        k.dueMet(4, -1, -1);
        k.dueMet(-1, -1, -1);
        k.due("met(0, -1)", k.x.met(0, -1), -1);
        k.dueNow(4, 2, 0, 4, 1, 3);
    }

    /** A CHAIR is not pushed to where there is no ROOM, and a wait behind one that goes on is no MEETING. */
    private static void noPush() {
        Check k = new Check("11, 13", NARROW + "chair a 2 0 0 0 0 0;chair b 4 0 9 0 0 0;chair c 3 0 0 0 0 0;law rank;"
            + "lane 1 0 e;");
        // The lane bars the only way: all wait where they are.
        k.x.on(1);
        k.dueChair(0, 0, 2);
        k.dueChair(2, 0, 3);
        k.dueNow(1, 3, 0, 0, 0, 3);
        k = new Check("11, 13", NARROW + "chair a 2 0 0 0 4 0;chair b 1 0 9 0 4 0;chair c 0 0 9 0 4 0;start a 0;law rank;"
            + "lane 3 0 w;");
        k.x.on(5);
        k.dueNow(5, 3, 0, 0, 0, 15);
    }

    /** Of two on a wide CELL the later one is looked at; and it is pushed even against a lane. */
    private static void pushesOfTwo() {
        String two = NICHE + "wide 2 0;chair a 1 0 2 0 4 0;chair b 2 1 1 0 0 0;chair c 3 0 3 0 0 0;law rank;";
        // c steps first to 2, a to 2 beside it, b waits for ROOM.
        Check k = new Check("11", two);
        k.x.on(1);
        k.dueChair(2, 0, 2);
        k.dueChair(0, 0, 2);
        k.dueChair(1, 0, 12);
        k.dueNow(1, 3, 0, 0, 0, 1);
        k.x.on(1);
        k.dueChair(2, 0, 1);
        k.dueChair(0, 0, 3);
        k.dueChair(1, 0, 2);
        // Both on 2 came from 3 and 1, d from the niche looks at the later one, a, and pushes it back to 1.
        k = new Check("11", NICHE + "wide 2 0;chair a 1 0 2 0 4 0;chair c 3 0 3 0 0 0;chair d 2 1 9 0 0 0;start d 1;"
            + "lane 3 0 e;stairs 2 0;law rank;");
        k.x.on(1);
        k.dueChair(0, 0, 2);
        k.dueChair(1, 0, 3);
        k = new Check("11", NICHE + "wide 2 0;chair a 1 0 2 0 4 0;chair c 3 0 3 0 0 0;chair d 2 1 9 0 0 0;start d 1;"
            + "stairs 2 0;law rank;");
        k.x.on(1);
        k.dueChair(0, 0, 2);
        k.dueChair(1, 0, 2);
        k.x.on(1);
        k.dueChair(0, 0, 1);
        k.dueChair(1, 0, 2);
        k.dueChair(2, 0, 2);
        k.dueMet(0, 1, 2, 0, 2, 1);
        k.dueNow(2, 3, 0, 1, 1, 0);
        // Lanes do not mind a push: 1 leads to 2 alone, and so does 2 to 3.
        k = new Check("11", NARROW + "lane 1 0 e;lane 2 0 e;stairs 2 0;chair a 1 0 2 0 4 0;chair b 3 0 9 0 2 0;start b 1;"
            + "law rank;");
        k.x.on(2);
        k.dueChair(0, 0, 1);
        k.dueChair(1, 9, 1);
        k.dueNow(2, 1, 1, 1, 1, 0);
    }

    private static void stairs() {
        Check k = new Check("11", NARROW + "stairs 1 0;stairs 0 0;chair a 0 0 0 0 3 0;");
        k.x.on(1);
        k.dueChair(0, 0, 1);
        k.x.on(1);
        k.dueChair(0, 0, 1);
        k.dueChair(0, 8, 0);
        k.x.on(1);
        k.dueChair(0, 0, 2);
        k.x.on(1);
        k.dueChair(0, 9, 3);
        k.dueChair(0, 6, 3);
    }

    private static void pushedOntoStairs() {
        Check k = new Check("11", NARROW + "stairs 0 0;chair a 0 0 3 1 4 0;chair b 4 0 5 2 0 0;law rank;");
        k.x.on(4);
        k.dueChair(0, 0, 0);
        k.dueChair(0, 8, 1);
        k.dueChair(1, 8, 1);
        k.dueNow(4, 2, 0, 3, 1, 2);
        k.x.on(1);
        k.dueChair(0, 8, 2);
        k.dueNow(5, 2, 0, 5, 1, 4);
    }

    private static void wide() {
        Check k = new Check("11", NARROW + "wide 2 0;chair a 0 0 0 0 4 0;chair b 4 0 9 9 0 0;law rank;");
        k.x.on(2);
        k.dueCell(2, 4, 2);
        k.x.on(2);
        k.dueNow(4, 0, 2, 0, 0, 0);
        k.dueChair(0, 9, 3);
        k.dueChair(1, 9, 3);
    }

    /** A wall told behind the CHAIR: it comes out, but has no WAY; nor is there one onto such a wall. */
    private static void onTheWall() {
        Check k = new Check("11, 30", "land 3 2;chair a 1 0 0 0 2 1;chair b 0 1 0 0 1 1;wall 1 0;wall 1 1;");
        k.x.on(2);
        k.dueChair(0, 0, 1);
        k.dueChair(1, 0, 10);
        k.due("next(0)", k.x.next(0), -1);
        k.due("next(1)", k.x.next(1), -1);
        k.dueNow(2, 2, 0, 0, 0, 4);
        k.due("plan()", k.plan("a e;a w;"), 2);
        k.due("judge(1)", k.x.judge(1), 1);
        k.due("judged(0)", k.x.judged(0), 2);
        k.dueChair(0, 0, 2);
        k.x.on(1);
        k.dueChair(0, 9, 2);
    }

    /** Who came to where it is bound is on it till the MINUTE is over. */
    private static void thereBehindTheMinute() {
        Check k = new Check("11", NARROW + "chair a 1 0 9 0 2 0;chair b 3 0 0 0 0 0;law rank;");
        k.x.on(1);
        k.dueChair(0, 9, 0);
        k.dueChair(1, 0, 3);
        k.dueChair(1, 8, 1);
        k.dueNow(1, 1, 1, 0, 0, 1);
        k.x.on(1);
        k.dueChair(1, 0, 2);
    }

    private static void theLastMinute() {
        Check k = new Check("11, 12", NARROW + "chair a 0 0 3 1 4 0;chair b 4 0 5 2 0 0;law rank;");
        for (int i = 0; i < 4; i++) {
            k.due("on(100)", k.x.on(100), 100);
        }
        k.due("on(99)", k.x.on(99), 99);
        k.due("now(0)", k.x.now(0), 499);
        k.due("on(2)", k.x.on(2), 1);
        k.due("now(0)", k.x.now(0), 500);
        k.due("undo()", k.x.undo(), 5);
        k.due("on(1)", k.x.on(1), 1);
        k.due("on(1)", k.x.on(1), 0);
        k.due("undo() leaves", k.x.undo(), 5);
        k.due("now(0)", k.x.now(0), 499);
        k.due("when(0)", k.x.when(0), 500);
        k.due("last()", k.x.last(), 500);
    }

    private static void meetingsKept() {
        Check k = new Check("13", NARROW + "chair a 0 0 3 1 4 0;chair b 4 0 5 2 0 0;law rank;");
        k.x.on(100);
        // 2 MEETINGS till MINUTE 2, and then 2 in each of 97.
        k.due("now(3)", k.x.now(3), 196);
        k.dueMet(59, 31, 0, 1, 1, 0);
        k.dueMet(60, -1, -1, -1, -1, -1);
        k.dueMet(Integer.MAX_VALUE, -1);
    }

    private static void lanes() {
        Check k = new Check("15", NICHE + "lane 0 0 e;");
        k.due("count(6)", k.x.count(6), 1);
        k.due("lane(0, 1)", k.x.lane(0, 1), false);
        k.due("lane(1, -1)", k.x.lane(1, -1), false);
        k.due("lane(10, 0)", k.x.lane(10, 0), false);
        k.due("lane(5, 0)", k.x.lane(5, 0), false);
        k.due("lane(-1, 0)", k.x.lane(-1, 0), false);
        k.due("lane(20, 0)", k.x.lane(20, 0), false);
        k.due("lane(1, 4)", k.x.lane(1, 4), false);
        k.due("lane(1, -2)", k.x.lane(1, -2), false);
        k.due("undo()", k.x.undo(), -1);
        k.due("lane(1, 3)", k.x.lane(1, 3), true);
        k.due("lane(0, 2)", k.x.lane(0, 2), true);
        k.due("count(6)", k.x.count(6), 2);
        k.dueCell(0, 3, 2);
        k.due("lane(0, -1)", k.x.lane(0, -1), true);
        k.due("count(6)", k.x.count(6), 1);
        k.dueCell(0, 3, -1);
        StringBuilder lanes = new StringBuilder("land 10 10;");
        for (int i = 0; i < 20; i++) {
            lanes.append("lane ").append(i % 10).append(' ').append(i / 10).append(" e;");
        }
        k = new Check("15", lanes.toString());
        k.due("lane(99, 0)", k.x.lane(99, 0), true);
        k.due("count(6)", k.x.count(6), 21);
    }

    private static void undo() {
        Check k = new Check("14", NICHE + "chair a 0 0 0 0 4 0;start a 1;");
        k.due("undo()", k.x.undo(), -1);
        k.x.on(2);
        k.x.lane(2, 1);
        k.plan("a e;a e;");
        k.due("judge(1)", k.x.judge(1), -1);
        k.due("drawn(5)", k.x.drawn(5), true);
        k.dueNow(0, 0, 0);
        k.dueChair(0, 6, 0);
        k.sentence("come=3");
        k.due("undo()", k.x.undo(), 3);
        k.dueChair(0, 0, 3);
        k.dueChair(0, 4, 1);
        k.dueChair(0, 6, 3);
        k.due("said(-1)", k.x.said(-1), 1);
        k.due("undo()", k.x.undo(), 2);
        k.dueChair(0, 0, 1);
        k.due("count(7)", k.x.count(7), 2);
        k.due("count(6)", k.x.count(6), 1);
        k.due("undo()", k.x.undo(), 1);
        k.due("count(6)", k.x.count(6), 0);
        k.due("undo()", k.x.undo(), 0);
        k.dueNow(0, 0, 0);
        k.due("undo()", k.x.undo(), -1);
        // What did nothing is no act; 8 are kept.
        k.due("judge(0)", k.x.judge(0), 0);
        k.due("on(0)", k.x.on(0), -1);
        k.due("undo()", k.x.undo(), -1);
        for (int i = 0; i < 10; i++) {
            k.x.on(1);
        }
        for (int i = 7; i >= 0; i--) {
            k.due("undo()", k.x.undo(), i);
        }
        k.due("undo()", k.x.undo(), -1);
        k.due("now(0)", k.x.now(0), 2);
        k.x.on(3);
        k.due("undo()", k.x.undo(), 0);
        k.due("now(0)", k.x.now(0), 2);
        // MEETINGS are undone, too.
        k = new Check("14", NARROW + "chair a 0 0 3 1 4 0;chair b 4 0 5 2 0 0;law rank;");
        k.x.on(3);
        k.x.on(1);
        k.due("undo()", k.x.undo(), 1);
        k.dueNow(3, 2, 0, 2, 1, 1);
        k.dueMet(2, -1);
        // FAULTS leave what can be undone.
        k.alleys("x");
        k.due("undo()", k.x.undo(), 0);
    }

    private static void images() {
        Check k = new Check("34, 35", NARROW + "chair a 0 0 3 1 4 0;chair b 4 0 5 2 0 0;law rank;");
        k.due("image(2)", k.x.image(2), false);
        k.due("image(-1)", k.x.image(-1), false);
        k.due("restore(0)", k.x.restore(0), false);
        k.due("restore(2)", k.x.restore(2), false);
        k.due("restore(-1)", k.x.restore(-1), false);
        k.x.on(3);
        k.x.lane(1, 1);
        k.plan("a e;b w;");
        k.sentence("rank>4");
        k.due("image(1)", k.x.image(1), true);
        k.due("restore(0)", k.x.restore(0), false);
        k.due("undo() behind an image", k.x.undo(), 1);
        k.due("alleys()", k.alleys("land 2 2;"), 1);
        k.due("image(0)", k.x.image(0), true);
        k.alleys("x");
        k.write("wall");
        k.x.judge(0);
        k.due("restore(1)", k.x.restore(1), true);
        k.due("fault() stays", k.x.fault(), 1);
        k.due("judged(1) stays", k.x.judged(1), 0);
        int[] counts = {5, 2, 2, 5, 0, 0, 1, 2, 4};
        for (int what = 0; what < counts.length; what++) {
            k.due("count(" + what + ")", k.x.count(what), counts[what]);
        }
        k.dueNow(3, 2, 0, 2, 1, 1);
        k.dueMet(1, 2, 1, 0, 1, 1);
        k.dueChair(0, 0, 0);
        k.dueChair(1, 0, 1);
        k.due("said(0)", k.x.said(0), 1);
        k.dueOrder(1, 0);
        k.due("undo()", k.x.undo(), -1);
        // b is on a lane that leads away: it has no WAY, and so nobody meets.
        k.x.on(1);
        k.dueNow(4, 2, 0, 2, 1, 3);
        k.due("restore(1)", k.x.restore(1), true);
        k.due("undo()", k.x.undo(), -1);
        k.dueNow(3, 2, 0, 2, 1, 1);
        k.x.end(0);
        k.due("restore(0)", k.x.restore(0), true);
        k.due("count(0)", k.x.count(0), 2);
        k.due("count(2)", k.x.count(2), 0);
        k.due("said(-1)", k.x.said(-1), -1);
        k.due("count(7)", k.x.count(7), 0);
    }
}
