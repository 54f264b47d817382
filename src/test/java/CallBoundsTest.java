/** The bounds that the promises name for their numbers, each on both sides, promise by promise. */
public final class CallBoundsTest {
    private static final int LEAST = Integer.MIN_VALUE;
    private static final int GREATEST = Integer.MAX_VALUE;
    private static final int[] FAR = {LEAST, LEAST + 1, -1001, -100, -2, 1000, 1 << 16, 1 << 30, GREATEST - 1, GREATEST};
    private static final String NICHE = "land 5 2;wall 0 1;wall 1 1;wall 3 1;wall 4 1;";
    private static final String NARROW = NICHE + "wall 2 1;";
    private static final String KNOT = NARROW + "chair a 0 0 3 1 4 0;chair b 4 0 5 2 0 0;law rank;";
    private static final String RING = "land 3 3;wall 1 1;chair a 0 0 1 0 2 0;chair b 2 0 2 0 0 0;";

    public static void main(String[] args) {
        aNewObject();
        feed();
        feedAtTheEnd();
        end();
        fault();
        chair();
        cell();
        way();
        next();
        order();
        on();
        now();
        met();
        lane();
        lanesBeyondThoseOfATextAreFree();
        untiedCells();
        untiedChairs();
        untiedWide();
        untiedByTheFirstCell();
        step();
        oneWay();
        oneWayAtTheCorners();
        last();
        invitedSpans();
        invitedChairs();
        invitedRows();
        invitedThatTheFirstComesLater();
        began();
        beganByStartsDrawn();
        lent();
        torches();
        torchesOneAlone();
        torchesOneThatIsPushed();
        voted();
        votedSooner();
        when();
        latest();
        drawn();
        drawnWraps();
        oddsSeeds();
        oddsWrap();
        judge();
        judged();
        said();
        images();
        imagesStay();
        actsBehindRestore();
        count();
        manyCalls();
        Check.close("CallBoundsTest");
    }

    /** Promise 1: "Empty ALLEYS; an empty tape." */
    private static void aNewObject() {
        Check k = new Check("1");
        for (int what = 0; what < 9; what++) {
            k.due("count(" + what + ")", k.x.count(what), 0);
        }
        for (int what = 0; what < 6; what++) {
            k.due("now(" + what + ")", k.x.now(what), 0);
        }
        for (int at = 0; at < 100; at += 11) {
            k.dueCell(at, 0, Check.THROWN);
            k.due("lane(" + at + ", 0)", k.x.lane(at, 0), false);
            k.due("way(" + at + ", " + at + ")", k.x.way(at, at), -1);
        }
        k.dueChair(0, 0, Check.THROWN);
        k.due("end(0)", k.x.end(0), true);
        k.due("end(1)", k.x.end(1), false);
        k.due("drawn(0)", k.x.drawn(0), false);
        k.due("on(100)", k.x.on(100), 100);
        k.due("now(0)", k.x.now(0), 100);
        k.due("undo()", k.x.undo(), 0);
        k.due("undo()", k.x.undo(), -1);
        k.due("image(0)", k.x.image(0), true);
        k.due("restore(0)", k.x.restore(0), true);
        k.due("restore(1)", k.x.restore(1), false);
    }

    private static Check withTape(int bytes) {
        Check k = new Check("2, 3");
        for (int i = 0; i < 47; i++) {
            k.x.feed(0x20202020, 0x20202020, 0x20202020, 0x20202020, 0x20202020);
        }
        k.due("end(" + bytes + ")", k.x.end(bytes), true);
        return k;
    }

    /** Promise 2: "NONE, and none come, if it would have more than 940". */
    private static void feed() {
        for (int bytes = 0; bytes <= 940; bytes++) {
            Check k = withTape(bytes);
            int want = bytes + 20 <= 940 ? bytes + 20 : -1;
            k.due("feed behind " + bytes, k.x.feed(1, 2, 3, 4, 5), want);
            k.due("count(8)", k.x.count(8), want == -1 ? bytes : want);
        }
        Check k = new Check("2");
        for (int i = 1; i <= 47; i++) {
            k.due("feed", k.x.feed(0, 0, 0, 0, 0), 20 * i);
        }
        k.due("feed, the 48th", k.x.feed(0, 0, 0, 0, 0), -1);
        k.due("count(8)", k.x.count(8), 940);
    }

    /** What was refused is not on the tape, what was not is: each byte, the highest of each number first. */
    private static void feedAtTheEnd() {
        Check k = withTape(881);
        k.x.feed(0x6c616e64, 0x20332032, 0x3b202020, 0x20202020, 0x20202020);
        k.x.end(900);
        k.due("alleys()", k.x.alleys(), 1);
        for (int place = 0; place < 20; place++) {
            byte[] text = "land 3 2;wall 2 1; \n".getBytes(java.nio.charset.StandardCharsets.ISO_8859_1);
            text[place] = '?';
            k = new Check("2");
            int[] four = new int[5];
            for (int i = 0; i < 20; i++) {
                four[i / 4] |= (text[i] & 255) << 8 * (3 - i % 4);
            }
            k.x.feed(four[0], four[1], four[2], four[3], four[4]);
            // A letter or digit ahead of the ? makes a TOKEN of what is ahead of it.
            int answer = k.x.alleys();
            int fault = -1 - answer;
            int token = place < 5 ? 0 : place < 14 && place > 8 ? 9 : place;
            boolean split = place > 0 && place < 4 || place > 9 && place < 13;
            k.due("the FAULT of ? at " + place, fault, split ? token : place);
        }
        k = withTape(921);
        k.due("feed", k.x.feed(0x3f3f3f3f, 0x3f3f3f3f, 0x3f3f3f3f, 0x3f3f3f3f, 0x3f3f3f3f), -1);
        k.x.end(900);
        k.due("alleys() of 900 blanks", k.x.alleys(), 0);
    }

    /** Promise 3: "false, if it has not so many, or n is below 0". */
    private static void end() {
        for (int bytes : new int[] {0, 1, 19, 20, 21, 900, 901, 939, 940}) {
            Check k = withTape(bytes);
            for (int n : new int[] {LEAST, -941, -940, -20, -1, bytes + 1, bytes + 20, 941, 960, GREATEST}) {
                k.due("end(" + n + ") of " + bytes, k.x.end(n), false);
                k.due("count(8)", k.x.count(8), bytes);
            }
            k.due("end(" + bytes + ")", k.x.end(bytes), true);
            k.due("count(8)", k.x.count(8), bytes);
            if (bytes > 0) {
                k.due("end(" + (bytes - 1) + ")", k.x.end(bytes - 1), true);
                k.due("count(8)", k.x.count(8), bytes - 1);
                k.due("end(" + bytes + ") again", k.x.end(bytes), false);
            }
            k.due("end(0)", k.x.end(0), true);
            k.due("count(8)", k.x.count(8), 0);
            k.due("end(1)", k.x.end(1), false);
        }
    }

    /** Promise 5: "0 without one and ahead of any", the latest of three. */
    private static void fault() {
        Check k = new Check("5");
        k.due("fault() ahead of any", k.x.fault(), 0);
        k.due("alleys()", k.alleys("wall 0 0;"), -6);
        k.due("fault()", k.x.fault(), 2);
        k.due("fault() again", k.x.fault(), 2);
        k.due("alleys()", k.alleys(KNOT), 9);
        k.due("fault()", k.x.fault(), 0);
        k.due("plan()", k.plan("z n;"), -1);
        k.due("fault()", k.x.fault(), 3);
        k.due("sentence()", k.sentence("sick"), 1);
        k.due("fault()", k.x.fault(), 0);
        k.due("sentence()", k.sentence("((((((((sick"), -9);
        k.due("fault()", k.x.fault(), 4);
        k.due("plan()", k.plan("a n;"), 1);
        k.due("fault()", k.x.fault(), 0);
        k.due("alleys()", k.alleys("land 2 2;wall 0 0;chair a 0 0"), -29);
        k.due("fault()", k.x.fault(), 5);
        k.x.on(1);
        k.x.judge(0);
        k.x.undo();
        k.due("fault() behind other calls", k.x.fault(), 5);
    }

    private static String chairs(int count) {
        StringBuilder text = new StringBuilder("land 3 3;");
        for (int c = 0; c < count; c++) {
            text.append("chair q").append((char) ('a' + c)).append(" 0 0 ").append(c).append(" 0 2 2;");
        }
        return text.toString();
    }

    /** Promise 6: "NoSuchElementException: no such ones." */
    private static void chair() {
        for (int count : new int[] {0, 1, 2, 7, 8}) {
            Check k = new Check("6", chairs(count));
            for (int c = -2; c < 11; c++) {
                for (int what = -2; what < 13; what++) {
                    boolean is = c >= 0 && c < count && what >= 0 && what <= 9;
                    k.due("chair(" + c + ", " + what + ") of " + count + " throws",
                        k.chair(c, what) == Check.THROWN, !is);
                }
            }
            for (int n : FAR) {
                k.dueChair(n, 0, Check.THROWN);
                k.dueChair(0, n, Check.THROWN);
                k.dueChair(n, n, Check.THROWN);
            }
        }
    }

    /** Promise 7: "NoSuchElementException: no such ones." */
    private static void cell() {
        int[][] sizes = {{2, 2}, {10, 10}, {10, 2}, {2, 10}, {5, 7}};
        for (int[] size : sizes) {
            Check k = new Check("7", "land " + size[0] + " " + size[1] + ";");
            for (int at = -12; at <= 120; at++) {
                boolean is = at >= 0 && at < 100 && at % 10 < size[0] && at / 10 < size[1];
                k.dueCell(at, 0, is ? 0 : Check.THROWN);
                k.dueCell(at, 3, is ? -1 : Check.THROWN);
            }
            for (int what = -3; what < 9; what++) {
                boolean is = what >= 0 && what <= 4;
                k.dueCell(0, what, is ? (what == 3 ? -1 : 0) : Check.THROWN);
            }
            for (int n : FAR) {
                k.dueCell(n, 0, Check.THROWN);
                k.dueCell(0, n, Check.THROWN);
            }
        }
    }

    /** Promise 8: "NONE: none, no such ones". */
    private static void way() {
        Check k = new Check("8", "land 3 2;");
        for (int from = -2; from < 16; from++) {
            for (int to = -2; to < 16; to++) {
                boolean are = isCell(from) && isCell(to);
                int far = Math.abs(from % 10 - to % 10) + Math.abs(from / 10 - to / 10);
                k.due("way(" + from + ", " + to + ")", k.x.way(from, to), are ? far : -1);
            }
        }
        for (int n : FAR) {
            k.due("way(" + n + ", 0)", k.x.way(n, 0), -1);
            k.due("way(0, " + n + ")", k.x.way(0, n), -1);
        }
        k = new Check("8", "land 10 10;");
        k.due("way(0, 99)", k.x.way(0, 99), 18);
        k.due("way(99, 0)", k.x.way(99, 0), 18);
        k.due("way(99, 99)", k.x.way(99, 99), 0);
        k.due("way(99, 100)", k.x.way(99, 100), -1);
        k.due("way(100, 99)", k.x.way(100, 99), -1);
        // From a wall and to a wall there is none, nor from one to itself.
        k = new Check("8", "land 3 2;wall 1 0;wall 1 1;");
        k.due("way(0, 10)", k.x.way(0, 10), 1);
        k.due("way(0, 2)", k.x.way(0, 2), -1);
        k.due("way(1, 0)", k.x.way(1, 0), -1);
        k.due("way(0, 1)", k.x.way(0, 1), -1);
        k.due("way(1, 1)", k.x.way(1, 1), -1);
        k.due("way(1, 11)", k.x.way(1, 11), -1);
    }

    private static boolean isCell(int at) {
        return at >= 0 && at % 10 < 3 && at / 10 < 2;
    }

    /** Promise 9: "NONE: none, not out, no such one". */
    private static void next() {
        Check k = new Check("9", NICHE + "chair a 0 0 0 0 4 0;chair b 2 1 0 0 2 1;chair c 4 0 0 0 0 0;start c 2;");
        for (int c = -2; c < 10; c++) {
            k.due("next(" + c + "), nobody out", k.x.next(c), -1);
        }
        k.x.on(1);
        k.due("next(0)", k.x.next(0), 2);
        k.due("next(1), THERE", k.x.next(1), -1);
        k.due("next(2), not out", k.x.next(2), -1);
        k.due("next(3)", k.x.next(3), -1);
        k.due("next(-1)", k.x.next(-1), -1);
        for (int n : FAR) {
            k.due("next(" + n + ")", k.x.next(n), -1);
        }
        k.x.lane(1, 0);
        k.due("next(0), no WAY", k.x.next(0), -1);
    }

    /** Promise 10: "(0: the first; all counted, out or not); NONE: none such". */
    private static void order() {
        for (int count = 0; count <= 8; count++) {
            Check k = new Check("10", chairs(count) + "law rank;");
            for (int c = -2; c < 11; c++) {
                k.due("order(" + c + ") of " + count, k.x.order(c), c >= 0 && c < count ? count - 1 - c : -1);
            }
            for (int n : FAR) {
                k.due("order(" + n + ")", k.x.order(n), -1);
            }
        }
        Check k = new Check("10", "land 3 2;chair a 0 0 0 0 0 0;chair b 0 0 0 0 2 0;chair c 0 0 9 0 2 0;start c 99;law rank;");
        k.x.on(2);
        k.dueOrder(2, 0, 1, -1);
    }

    /** Promise 11: "n (1 to 100) MINUTES go by: how many did (499 is the last); NONE: not as told." */
    private static void on() {
        for (int n = -2; n <= 103; n++) {
            Check k = new Check("11", KNOT);
            boolean is = n >= 1 && n <= 100;
            k.due("on(" + n + ")", k.x.on(n), is ? n : -1);
            k.due("now(0)", k.x.now(0), is ? n : 0);
            k.due("undo()", k.x.undo(), is ? 0 : -1);
            k.due("now(0)", k.x.now(0), 0);
        }
        Check k = new Check("11", KNOT);
        for (int n : FAR) {
            k.due("on(" + n + ")", k.x.on(n), -1);
        }
        k.due("now(0)", k.x.now(0), 0);
    }

    /** Promise 12: "NONE for another what." */
    private static void now() {
        Check k = new Check("12", KNOT);
        k.x.on(4);
        k.dueNow(4, 2, 0, 4, 1, 3, -1, -1);
        for (int n : FAR) {
            k.due("now(" + n + ")", k.x.now(n), -1);
        }
        k.due("now(-1)", k.x.now(-1), -1);
    }

    /** Promise 13: "NONE: there is none such." */
    private static void met() {
        Check k = new Check("13", KNOT);
        k.dueMet(0, -1, -1, -1, -1, -1);
        k.x.on(1);
        k.dueMet(0, -1, -1, -1, -1, -1);
        k.x.on(1);
        k.dueMet(0, 1, 0, 1, 2, 0, -1, -1);
        k.dueMet(1, -1, -1, -1, -1, -1);
        k.x.on(1);
        k.dueMet(0, 1, 0, 1, 2, 0, -1, -1);
        k.dueMet(1, 2, 1, 0, 1, 1, -1, -1);
        k.dueMet(2, -1, -1, -1, -1, -1);
        for (int n : FAR) {
            k.due("met(" + n + ", 0)", k.x.met(n, 0), -1);
            k.due("met(0, " + n + ")", k.x.met(0, n), -1);
        }
        k.due("met(-1, 0)", k.x.met(-1, 0), -1);
        k.due("met(1, -1)", k.x.met(1, -1), -1);
        k.due("met(1, 5)", k.x.met(1, 5), -1);
        k.due("met(0, 5)", k.x.met(0, 5), -1);
    }

    /** Promise 15: "(0 to 3; NONE: none) .. false: no such ones, it is so already". */
    private static void lane() {
        for (int dir = -3; dir <= 6; dir++) {
            Check k = new Check("15", NICHE + "lane 0 0 e;");
            boolean is = dir >= -1 && dir <= 3;
            k.due("lane(0, " + dir + ")", k.x.lane(0, dir), is && dir != 1);
            k.dueCell(0, 3, is ? dir : 1);
            k.due("lane(1, " + dir + ")", k.x.lane(1, dir), is && dir != -1);
            k.dueCell(1, 3, is ? dir : -1);
            k.due("lane(1, " + dir + ") again", k.x.lane(1, dir), false);
            k.due("lane(10, " + dir + "), a wall", k.x.lane(10, dir), false);
        }
        Check k = new Check("15", NICHE);
        for (int at = -12; at <= 112; at++) {
            boolean is = at >= 0 && at < 5 || at == 12;
            k.due("lane(" + at + ", 2)", k.x.lane(at, 2), is);
            k.due("count(6)", k.x.count(6), at < 0 ? 0 : Math.min(at + 1, 5) + (at >= 12 ? 1 : 0));
        }
        for (int n : FAR) {
            k.due("lane(" + n + ", 0)", k.x.lane(n, 0), false);
            k.due("lane(0, " + n + ")", k.x.lane(0, n), false);
        }
        // A wall may have one by the text.
        k = new Check("15", "land 3 2;wall 1 1;lane 1 1 w;");
        k.due("count(6)", k.x.count(6), 1);
        k.dueCell(11, 3, 3);
        k.due("lane(11, -1), a wall", k.x.lane(11, -1), false);
        k.due("lane(11, 0), a wall", k.x.lane(11, 0), false);
        k.dueCell(11, 3, 3);
    }

    /** 20 is the most of a text alone: each CELL may have one. */
    private static void lanesBeyondThoseOfATextAreFree() {
        Check k = new Check("15, 36", "land 10 10;");
        for (int at = 0; at < 100; at++) {
            k.due("lane(" + at + ", 1)", k.x.lane(at, at % 4), true);
            k.due("count(6)", k.x.count(6), at + 1);
        }
        k.due("lane(99, 3) again", k.x.lane(99, 3), false);
        k.due("lane(99, -1)", k.x.lane(99, -1), true);
        k.due("count(6)", k.x.count(6), 99);
    }

    /** Promise 16: "W times H 36 at most". */
    private static void untiedCells() {
        for (int w = 2; w <= 10; w++) {
            for (int h = 2; h <= 10; h++) {
                Check k = new Check("16", "land " + w + " " + h + ";chair a 0 0 0 0 " + (w - 1) + " " + (h - 1) + ";");
                k.due("untied() of " + w + " times " + h + ", nobody out", k.x.untied(), w * h <= 36 ? 0 : -2);
                k.x.on(1);
                k.due("untied() of " + w + " times " + h, k.x.untied(), w * h <= 36 ? w + h - 3 : -2);
            }
        }
    }

    /** "3 CHAIRS out": those that are not out, or THERE, do not count. */
    private static void untiedChairs() {
        for (int out = 0; out <= 8; out++) {
            StringBuilder text = new StringBuilder("land 9 2;");
            for (int c = 0; c < 8; c++) {
                String name = "q" + (char) ('a' + c);
                text.append("chair ").append(name).append(' ').append(c).append(" 0 0 0 ").append(c).append(" 1;");
                text.append("lane ").append(c).append(" 0 n;");
                text.append(c < out ? "" : "start " + name + " 9;");
            }
            Check k = new Check("16", text.toString());
            k.x.on(1);
            k.due("now(1)", k.x.now(1), out);
            for (int c = 0; c < out; c++) {
                k.x.lane(c, -1);
            }
            k.due("untied() of " + out + " out", k.x.untied(), out <= 3 ? out : -2);
        }
        // Four were out, one of them is THERE.
        Check k = new Check("16", "land 4 2;chair a 0 0 0 0 0 1;chair b 1 0 0 0 1 1;chair c 2 0 0 0 2 1;chair d 3 0 0 0 3 1;"
            + "lane 0 0 n;lane 1 0 n;lane 2 0 n;lane 3 0 n;");
        k.x.on(1);
        k.due("untied() of 4 out", k.x.untied(), -2);
        k.x.lane(3, -1);
        k.due("untied() of 4 out, one of which could go", k.x.untied(), -2);
        k.x.on(1);
        k.due("now(2)", k.x.now(2), 1);
        k.due("untied() of 3 out, with lanes", k.x.untied(), -1);
        k.x.lane(0, 2);
        k.x.lane(1, 2);
        k.x.lane(2, 2);
        k.due("untied() of 3 out", k.x.untied(), 3);
    }

    /** "ROOM as above": a second one on a wide CELL, a third one not. */
    private static void untiedWide() {
        String two = "land 2 2;%swall 0 1;wall 1 1;chair a 0 0 0 0 1 0;chair b 1 0 0 0 0 0;";
        Check k = new Check("16, 17", String.format(two, ""));
        k.x.on(1);
        k.due("now(1)", k.x.now(1), 2);
        k.due("untied(), no CELL is wide", k.x.untied(), -1);
        k = new Check("16, 17", String.format(two, "lane 0 0 n;lane 1 0 n;wide 0 0;"));
        k.x.on(1);
        k.x.lane(0, -1);
        k.x.lane(1, -1);
        k.due("untied(), b comes to a's CELL", k.x.untied(), 2);
        k.due("step(0)", k.x.step(0), 7);
        k.due("step(1)", k.x.step(1), 1);
        // c would be the third one there.
        k = new Check("16, 17", "land 2 2;wide 0 0;wall 0 1;wall 1 1;chair a 0 0 0 0 1 0;chair b 0 0 0 0 1 0;chair c 1 0 0 0 0 0;");
        k.x.on(1);
        k.due("now(1)", k.x.now(1), 3);
        k.dueCell(0, 4, 2);
        k.due("untied(), three", k.x.untied(), -1);
        // They pass on a wide CELL in the midst of a narrow alley.
        k = new Check("16, 17", NARROW + "wide 2 0;chair a 0 0 0 0 4 0;chair b 4 0 0 0 0 0;");
        k.x.on(1);
        k.due("untied()", k.x.untied(), 6);
        int[] due = {1, 7, 1, 1, 7, 7};
        for (int i = 0; i < 7; i++) {
            k.due("step(" + i + ")", k.x.step(i), i < 6 ? due[i] : -1);
        }
        k.plan("a e;b w;a e;a e;b w;b w;");
        k.due("judge(0) of these STEPS", k.x.judge(0), -1);
        k.due("judged(2)", k.x.judged(2), 2);
    }

    /** CELL 0 is one like others, and what was asked once may be asked again. */
    private static void untiedByTheFirstCell() {
        Check k = new Check("16, 17", "land 2 3;wall 1 1;chair a 0 2 0 0 1 0;");
        k.x.on(1);
        k.dueChair(0, 0, 10);
        for (int i = 0; i < 3; i++) {
            k.due("untied()", k.x.untied(), 2);
            k.due("step(0)", k.x.step(0), 0);
            k.due("step(1)", k.x.step(1), 1);
        }
        k = new Check("16, 17", "land 2 2;chair a 1 0 0 0 0 1;lane 1 0 n;");
        k.x.on(1);
        k.due("untied(), by a lane that leads nowhere", k.x.untied(), -1);
        k.x.lane(1, -1);
        for (int i = 0; i < 3; i++) {
            k.due("untied()", k.x.untied(), 2);
            k.due("step(0), s is ahead of w", k.x.step(0), 2);
            k.due("step(1)", k.x.step(1), 3);
        }
        k.x.lane(1, 3);
        k.due("untied()", k.x.untied(), 2);
        k.due("step(0)", k.x.step(0), 3);
        k.due("step(1)", k.x.step(1), 2);
    }

    /** Promise 17: "NONE: none such, or ahead of any". */
    private static void step() {
        Check k = new Check("17", NICHE + "chair a 0 0 3 1 4 0;chair b 4 0 5 2 0 0;law rank;");
        for (int i = -2; i < 12; i++) {
            k.due("step(" + i + ") ahead of any", k.x.step(i), -1);
        }
        k.due("untied(), nobody out", k.x.untied(), 0);
        k.due("step(0) of none", k.x.step(0), -1);
        k.x.on(1);
        k.due("untied()", k.x.untied(), 8);
        int[] due = {1, 2, 7, 7, 0, 1, 1, 7};
        for (int i = -3; i < 14; i++) {
            k.due("step(" + i + ")", k.x.step(i), i >= 0 && i < 8 ? due[i] : -1);
        }
        for (int n : FAR) {
            k.due("step(" + n + ")", k.x.step(n), -1);
        }
        // Fewer STEPS later: those of the longer row are gone.
        k.alleys("land 3 2;chair a 0 0 0 0 2 0;");
        k.due("step(7), as told last", k.x.step(7), 7);
        k.x.on(1);
        k.due("untied()", k.x.untied(), 1);
        k.due("step(0)", k.x.step(0), 1);
        k.due("step(1)", k.x.step(1), -1);
        k.due("step(7)", k.x.step(7), -1);
        k.x.on(1);
        k.due("untied(), all THERE", k.x.untied(), 0);
        k.due("step(0)", k.x.step(0), -1);
    }

    /** Promise 18: "NONE: none is better". */
    private static void oneWay() {
        Check k = new Check("18", "land 3 2;");
        k.due("oneWay(), no CHAIRS", k.x.oneWay(), -1);
        k.alleys("land 3 2;chair a 0 0 0 0 2 0;");
        k.due("oneWay(), nothing is better", k.x.oneWay(), -1);
        k.x.on(2);
        k.due("now(2)", k.x.now(2), 1);
        k.due("oneWay(), nobody is to come", k.x.oneWay(), -1);
        k = new Check("18", RING);
        k.due("oneWay()", k.x.oneWay(), 2);
        k.due("count(6)", k.x.count(6), 0);
        k.alleys(RING + "lane 0 0 e;lane 1 0 e;");
        k.due("oneWay(), nothing is better", k.x.oneWay(), -1);
        // The same ring, turned round.
        k.alleys("land 3 3;wall 1 1;chair a 2 2 1 0 0 2;chair b 0 2 2 0 2 2;");
        k.due("oneWay()", k.x.oneWay(), 200);
        k.alleys("land 3 3;wall 1 1;chair a 2 2 1 0 0 2;chair b 0 2 2 0 2 2;lane 0 2 e;");
        k.due("oneWay()", k.x.oneWay(), 211);
    }

    /** The first and the last CELL and DIR may be it: a waits for ever behind b, which has no WAY, if it isn't sent round. */
    private static void oneWayAtTheCorners() {
        Check k = new Check("18", "land 10 10;chair a 9 9 0 0 8 8;chair b 9 8 0 0 0 0;lane 9 8 w;wall 0 0;");
        k.due("oneWay()", k.x.oneWay(), 993);
        k.x.lane(99, 1);
        k.due("oneWay(), the CELL has a lane", k.x.oneWay(), -1);
        k = new Check("18", "land 10 10;chair a 0 1 0 0 1 0;chair b 1 1 0 0 9 9;lane 1 1 n;wall 9 9;");
        k.due("oneWay(), a goes by n, where nobody is", k.x.oneWay(), -1);
        k = new Check("18", "land 10 10;chair a 0 0 0 0 1 1;chair b 1 0 0 0 9 9;lane 1 0 s;wall 9 9;");
        k.due("oneWay()", k.x.oneWay(), 2);
    }

    /** Promise 19: "NONE: nobody is to come". */
    private static void last() {
        Check k = new Check("19", "land 3 2;");
        k.due("last(), no CHAIRS", k.x.last(), -1);
        k.alleys("land 3 2;chair a 0 0 0 0 0 0;start a 2;");
        k.due("last()", k.x.last(), 2);
        k.x.on(2);
        k.due("last()", k.x.last(), 2);
        k.x.on(1);
        k.due("last(), nobody is to come", k.x.last(), -1);
        k.x.undo();
        k.due("last()", k.x.last(), 2);
    }

    /** Promise 20: "spans of n (1 to 30) MINUTES". */
    private static void invitedSpans() {
        Check k = new Check("20", "land 4 2;wall 0 1;wall 1 1;wall 2 1;wall 3 1;chair a 0 0 1 0 3 0;chair b 3 0 2 0 0 0;");
        for (int n = -2; n <= 33; n++) {
            // b may come when a is THERE: 3 MINUTES behind it, but not sooner.
            int want = n < 1 || n > 30 ? -1 : n == 1 ? 3 : n == 2 ? 2 : 1;
            k.due("invited(" + n + ")", k.x.invited(n), want);
        }
        for (int n : FAR) {
            k.due("invited(" + n + ")", k.x.invited(n), -1);
        }
    }

    /** "4 CHAIRS at most". */
    private static void invitedChairs() {
        for (int count = 0; count <= 8; count++) {
            StringBuilder text = new StringBuilder("land 9 2;");
            for (int c = 0; c < count; c++) {
                text.append("chair q").append((char) ('a' + c)).append(' ').append(c).append(" 0 0 0 ").append(c).append(" 1;");
            }
            Check k = new Check("20", text.toString());
            k.due("invited(1) of " + count, k.x.invited(1), count >= 1 && count <= 4 ? 0 : -1);
            k.due("invited(30) of " + count, k.x.invited(30), count >= 1 && count <= 4 ? 0 : -1);
        }
    }

    /** "0 to 3 times": 4 times is too late, CHAIR 0 is in the highest place; none such. */
    private static void invitedRows() {
        String four = "land 4 2;wall 0 1;wall 1 1;wall 2 1;wall 3 1;";
        String two = "chair a 0 0 1 0 3 0;chair b 3 0 2 0 0 0;";
        Check k = new Check("20", four + two);
        k.due("invited(1), b 3 times", k.x.invited(1), 3);
        k.alleys(NARROW + "chair a 0 0 1 0 4 0;chair b 4 0 2 0 0 0;");
        k.due("invited(1), b would have to be 4 times", k.x.invited(1), -1);
        k.due("invited(2)", k.x.invited(2), 2);
        // Behind them one that minds nobody, and ahead of them one.
        k.alleys(four + two + "chair c 0 0 0 0 0 0;chair d 0 0 0 0 0 0;");
        k.due("invited(1)", k.x.invited(1), 3 * 16);
        k.alleys(four + "chair c 0 0 0 0 0 0;chair d 0 0 0 0 0 0;" + two);
        k.due("invited(1)", k.x.invited(1), 3);
        k.alleys(four + "chair a 0 0 1 0 3 0;chair c 0 0 0 0 0 0;chair d 0 0 0 0 0 0;chair b 3 0 2 0 0 0;");
        k.due("invited(1)", k.x.invited(1), 3);
    }

    /** b goes into a niche beside a: whenever it comes, it is no use that it comes later, and a must. */
    private static void invitedThatTheFirstComesLater() {
        String beside = "land 6 2;wall 0 1;wall 2 1;wall 3 1;wall 4 1;wall 5 1;chair a 0 0 %d 0 5 0;chair b 5 0 %d 0 1 1;"
            + "law rank;";
        Check k = new Check("20", NICHE + "chair a 0 0 0 0 4 0;chair b 4 0 0 0 2 1;");
        k.due("invited(1), a 2 times", k.x.invited(1), 2 * 4);
        k.due("invited(2), b 2 times", k.x.invited(2), 2);
        k.alleys(String.format(beside, 0, 1));
        k.due("invited(1), a 3 times", k.x.invited(1), 3 * 4);
        // If a goes ahead of b, it would have to come later still.
        k.alleys(String.format(beside, 1, 0));
        k.due("invited(1), a would have to be 4 times", k.x.invited(1), -1);
        // Starts that were told before, or drawn, are of no use here.
        k.alleys(String.format(beside, 0, 1) + "start a 50;start b 7;");
        k.due("invited(1), starts told", k.x.invited(1), 3 * 4);
        k.x.drawn(3);
        k.due("invited(1), starts drawn", k.x.invited(1), 3 * 4);
        k.alleys(String.format(beside, 0, 1) + "chair c 0 0 0 0 0 0;chair d 0 0 0 0 0 0;");
        k.due("invited(1), in the highest place of four", k.x.invited(1), 3 * 64);
    }

    /** Promise 21: a bit for each CHAIR, the eighth, too. */
    private static void began() {
        for (int count = 0; count <= 8; count++) {
            StringBuilder text = new StringBuilder("land 9 2;");
            for (int c = 0; c < count; c++) {
                text.append("chair q").append((char) ('a' + c)).append(' ').append(c).append(" 0 0 0 ").append(c).append(" 1;");
            }
            Check k = new Check("21", text.toString());
            k.due("began() of " + count, k.x.began(), (1 << count) - 1);
        }
        // Six that mind nobody, and two that meet.
        StringBuilder text = new StringBuilder("land 9 3;");
        for (int c = 0; c < 6; c++) {
            text.append("wall ").append(c).append(" 1;chair q").append((char) ('a' + c)).append(" 5 2 0 0 5 2;");
        }
        Check k = new Check("21", text + "wall 6 1;wall 7 1;wall 8 1;chair a 0 0 0 0 8 0;chair b 8 0 0 0 0 0;");
        k.due("began()", k.x.began(), 128 + 64);
    }

    /** "from the beginning": with the starts of now, and whatever went by. */
    private static void beganByStartsDrawn() {
        // Without c, which minds nobody, there is a MEETING all the same, if there is one with it.
        Check k = new Check("21", RING + "chair c 0 2 0 0 0 2;");
        k.due("began()", k.x.began(), 3);
        int meeting = 0;
        for (int seed = 0; seed < 30; seed++) {
            k.x.drawn(seed);
            int odds = k.x.odds(1, seed);
            meeting += odds;
            k.due("began() by seed " + seed, k.x.began(), odds == 1 ? 3 : 7);
            k.x.on(7);
            k.due("began() by seed " + seed + ", later", k.x.began(), odds == 1 ? 3 : 7);
        }
        k.due("some meet, and not all", meeting > 0 && meeting < 30, true);
    }

    /** Promise 22: "NONE - 1000: no such ones, it is THERE". */
    private static void lent() {
        String joint = "land 4 2;wall 0 1;wall 2 1;wall 3 1;chair a 0 0 1 0 3 0;chair b 1 1 2 0 3 0;law rank;";
        Check k = new Check("22", joint);
        for (int c = -2; c < 10; c++) {
            for (int d = -2; d < 10; d++) {
                boolean are = c >= 0 && c < 2 && d >= 0 && d < 2;
                k.due("lent(" + c + ", " + d + ")", k.x.lent(c, d), are ? (c == d ? 0 : c == 0 ? 1 : -1) : -1001);
            }
        }
        for (int n : FAR) {
            k.due("lent(" + n + ", 0)", k.x.lent(n, 0), -1001);
            k.due("lent(0, " + n + ")", k.x.lent(0, n), -1001);
        }
        k.x.on(2);
        k.due("lent(1, 0), not THERE yet", k.x.lent(1, 0), 0);
        k.x.on(1);
        k.due("now(2)", k.x.now(2), 1);
        k.due("lent(1, 0), THERE", k.x.lent(1, 0), -1001);
        k.due("lent(0, 1), who lends is THERE", k.x.lent(0, 1), 0);
        // Who is not out yet may be lent a rank.
        k = new Check("22", joint + "start a 1;start b 1;");
        k.due("lent(0, 1), not out", k.x.lent(0, 1), 1);
    }

    private static Check wideNarrow() {
        Check k = new Check("23", NARROW + "wide 1 0;chair a 0 0 0 0 4 0;chair b 4 0 0 0 0 0;chair c 0 0 0 0 4 0;start c 90;"
            + "chair d 3 0 0 0 3 0;");
        k.x.on(1);
        return k;
    }

    /** Promise 23: "n (1 to 20) MINUTES", "k NONE", "NONE: none such, not as told". */
    private static void torches() {
        Check k = wideNarrow();
        for (int n = -2; n <= 23; n++) {
            boolean is = n >= 1 && n <= 20;
            // By one MINUTE nothing is won; by more, if a waits on the wide CELL, b can pass.
            k.due("torches(0, 1, " + n + ", -1)", k.x.torches(0, 1, n, -1), is ? (n == 1 ? 4 : 2) : -1);
            k.due("torches(0, 1, " + n + ", 0)", k.x.torches(0, 1, n, 0), is ? (n == 1 ? 0 : 1) : -1);
        }
        k.due("torches(0, 1, 2, -1)", k.x.torches(0, 1, 2, -1), 2);
        for (int row = -3; row < 6; row++) {
            int want = row == -1 ? 2 : row == 0 ? 1 : row == 1 ? 2 : -1;
            k.due("torches(0, 1, 2, " + row + ")", k.x.torches(0, 1, 2, row), want);
        }
        for (int n : FAR) {
            k.due("torches(0, 1, " + n + ", -1)", k.x.torches(0, 1, n, -1), -1);
            k.due("torches(0, 1, 2, " + n + ")", k.x.torches(0, 1, 2, n), -1);
            k.due("torches(" + n + ", 1, 2, -1)", k.x.torches(n, 1, 2, -1), -1);
            k.due("torches(0, " + n + ", 2, -1)", k.x.torches(0, n, 2, -1), -1);
        }
        // All four rows, rising: nobody is ever THERE.
        k = new Check("23", KNOT);
        k.x.on(4);
        for (int row = -1; row <= 4; row++) {
            k.due("torches(0, 1, 2, " + row + ")", k.x.torches(0, 1, 2, row), row == -1 ? 4 : row < 4 ? row : -1);
        }
    }

    /** "one alone, one is THERE or not out". */
    private static void torchesOneAlone() {
        Check k = wideNarrow();
        k.dueNow(1, 2, 1);
        for (int c = -1; c < 6; c++) {
            for (int d = -1; d < 6; d++) {
                boolean are = c >= 0 && c < 2 && d >= 0 && d < 2 && c != d;
                k.due("torches(" + c + ", " + d + ", 2, -1)", k.x.torches(c, d, 2, -1), are ? 2 : -1);
            }
        }
    }

    /** "(not stepping by themselves": who waits may be pushed, and then a has no use of waiting as long. */
    private static void torchesOneThatIsPushed() {
        Check k = new Check("23", NARROW + "chair a 0 0 9 0 3 0;chair b 4 0 0 0 0 0;law rank;");
        k.x.on(2);
        k.dueChair(0, 0, 2);
        k.dueChair(1, 0, 3);
        // b has no WAY from now on: it is the same to it whether it waits.
        k.x.lane(3, 1);
        for (int n = 1; n <= 20; n++) {
            k.due("torches(0, 1, " + n + ", -1)", k.x.torches(0, 1, n, -1), 2);
            k.due("torches(0, 1, " + n + ", 0)", k.x.torches(0, 1, n, 0), 0);
            k.due("torches(0, 1, " + n + ", 1)", k.x.torches(0, 1, n, 1), 1);
            k.due("torches(0, 1, " + n + ", 2)", k.x.torches(0, 1, n, 2), -1);
            k.due("torches(1, 0, " + n + ", 1)", k.x.torches(1, 0, n, 1), 2);
        }
    }

    /** Promise 24: "1: more are for it, 0: not; NONE: no such one". */
    private static void voted() {
        String block = NICHE.replace("wall 1 1;", "") + "%schair b 2 0 0 0 1 1;wall 1 1;";
        String[] others = {"", "chair c 1 0 0 0 4 0;", "chair c 1 0 0 0 4 0;chair d 0 0 0 0 4 0;"};
        for (int n = 0; n < 3; n++) {
            Check k = new Check("24", String.format(block, others[n]));
            for (int c = -2; c < 10; c++) {
                k.due("voted(" + c + "), nobody out", k.x.voted(c), c >= 0 && c <= n ? 0 : -1);
            }
            k.x.on(1);
            k.due("now(1)", k.x.now(1), n + 1);
            // The one that is in the way is not for it: one for it is not more, two are.
            k.due("voted() of " + n + " against the last", k.x.voted(n), n == 2 ? 1 : 0);
            k.due("voted(-1)", k.x.voted(-1), -1);
            k.due("voted(" + (n + 1) + ")", k.x.voted(n + 1), -1);
            for (int far : FAR) {
                k.due("voted(" + far + ")", k.x.voted(far), -1);
            }
        }
    }

    /** "if it would be THERE sooner": by one MINUTE, that is; who would be THERE all the same is not for it. */
    private static void votedSooner() {
        Check k = new Check("24", "land 4 3;chair a 0 0 0 0 3 0;chair b 0 1 0 0 3 1;chair c 0 2 0 0 3 2;");
        k.x.on(1);
        for (int c = 0; c < 3; c++) {
            k.due("voted(" + c + "), who minds nobody", k.x.voted(c), 0);
        }
        // b comes out of a niche ahead of c and a: each of them waits for one MINUTE.
        String joint = "land 7 3;wall 0 1;wall 1 1;wall 2 1;wall 4 1;wall 5 1;wall 6 1;%s"
            + "chair a 0 0 0 0 6 0;chair b 3 2 9 0 6 0;chair c 1 0 5 0 6 0;law rank;";
        k = new Check("24", String.format(joint, ""));
        k.x.on(1);
        k.due("when(2)", k.x.when(2), 5);
        k.due("voted(1), two of three", k.x.voted(1), 1);
        k.due("voted(2), one of three", k.x.voted(2), 0);
        k.due("voted(0), none of three", k.x.voted(0), 0);
        // One that is THERE is nobody's loss.
        k = new Check("24", "land 4 3;chair a 0 0 0 0 0 0;chair b 0 1 0 0 3 1;chair c 0 2 0 0 3 2;");
        k.x.on(1);
        k.due("now(2)", k.x.now(2), 1);
        k.due("voted(0), THERE", k.x.voted(0), 0);
    }

    /** Promise 25: "NONE: no such one, it is THERE". */
    private static void when() {
        Check k = new Check("25", "land 3 2;chair a 0 0 0 0 2 0;chair b 0 1 0 0 2 1;start b 3;");
        for (int c = -2; c < 10; c++) {
            k.due("when(" + c + ")", k.x.when(c), c == 0 ? 1 : c == 1 ? 4 : -1);
        }
        for (int n : FAR) {
            k.due("when(" + n + ")", k.x.when(n), -1);
        }
        k.x.on(1);
        k.due("when(0)", k.x.when(0), 1);
        k.x.on(1);
        k.due("when(0), THERE", k.x.when(0), -1);
        k.due("when(1)", k.x.when(1), 4);
    }

    /** Promise 26: "of like ones the first", "NONE: no CHAIRS". */
    private static void latest() {
        Check k = new Check("26", "land 3 2;");
        k.due("latest(), no CHAIRS", k.x.latest(), -1);
        for (int count = 1; count <= 8; count++) {
            StringBuilder text = new StringBuilder("land 9 2;");
            for (int c = 0; c < count; c++) {
                text.append("chair q").append((char) ('a' + c)).append(' ').append(c).append(" 0 0 0 ").append(c).append(" 1;");
            }
            k = new Check("26", text.toString());
            k.due("latest(), nobody waits", k.x.latest(), 0);
            // The last one and the one ahead of it wait for ever, if they have lanes that lead nowhere.
            k.x.lane(count - 1, 0);
            k.due("latest()", k.x.latest(), count - 1);
            k.x.lane(Math.max(count - 2, 0), 0);
            k.due("latest() of like ones", k.x.latest(), Math.max(count - 2, 0));
        }
    }

    /** Promise 27: "true; false: no CHAIRS". */
    private static void drawn() {
        for (int seed : new int[] {0, 1, -1, LEAST, GREATEST}) {
            Check k = new Check("27", "land 3 2;");
            k.x.on(3);
            k.due("drawn(" + seed + "), no CHAIRS", k.x.drawn(seed), false);
            k.due("now(0)", k.x.now(0), 3);
            k.due("undo()", k.x.undo(), 0);
            k = new Check("27", KNOT);
            k.x.on(50);
            k.due("drawn(" + seed + ")", k.x.drawn(seed), true);
            k.dueNow(0, 0, 0, 0, 0, 0);
            k.dueMet(0, -1);
            k.due("undo()", k.x.undo(), 1);
            k.due("now(0)", k.x.now(0), 50);
        }
    }

    /** "an int, wrapping": the draws were made by other means, with numbers that do not wrap. */
    private static void drawnWraps() {
        int[][] rows = {
            {0, 8, 18, 15, 8, 18, 8, 18, 11},
            {1, 14, 12, 16, 3, 7, 16, 10, 6},
            {-1, 17, 8, 19, 13, 6, 0, 3, 15},
            {2, 1, 7, 13, 18, 19, 4, 5, 1},
            {7, 17, 15, 8, 13, 0, 0, 12, 12},
            {12345, 18, 15, 8, 18, 8, 18, 11, 13},
            {GREATEST, 9, 16, 7, 5, 14, 12, 15, 7},
            {LEAST, 16, 10, 7, 0, 6, 0, 6, 3},
        };
        Check k = new Check("27", chairs(8));
        for (int[] row : rows) {
            k.due("drawn(" + row[0] + ")", k.x.drawn(row[0]), true);
            for (int c = 0; c < 8; c++) {
                k.dueChair(c, 4, row[c + 1]);
            }
        }
    }

    /** Promise 28: "Of n (1 to 40) seeds .. NONE: not as told, no CHAIRS". */
    private static void oddsSeeds() {
        // One that minds nobody; and two that meet, whenever they set out.
        Check none = new Check("28", "land 3 2;chair a 0 0 0 0 2 0;");
        Check nobody = new Check("28", "land 3 2;");
        Check some = new Check("28", RING);
        int meeting = 0;
        for (int n = -2; n <= 43; n++) {
            boolean is = n >= 1 && n <= 40;
            none.due("odds(" + n + ", 3)", none.x.odds(n, 3), is ? 0 : -1);
            nobody.due("odds(" + n + ", 3), no CHAIRS", nobody.x.odds(n, 3), -1);
            meeting += is ? some.x.odds(1, 3 + n - 1) : 0;
            some.due("odds(" + n + ", 3)", some.x.odds(n, 3), is ? meeting : -1);
        }
        some.due("some meet, and not all", meeting > 0 && meeting < 40, true);
        for (int n : FAR) {
            none.due("odds(" + n + ", 3)", none.x.odds(n, 3), -1);
            none.due("odds(1, " + n + ")", none.x.odds(1, n), 0);
        }
    }

    /** "seeds x, x and 1, ..": behind the greatest int comes the least. */
    private static void oddsWrap() {
        Check k = new Check("28", RING);
        int[] first = {GREATEST, LEAST, LEAST + 1, LEAST + 2};
        int meeting = 0;
        for (int i = 0; i < first.length; i++) {
            Check one = new Check("28", RING);
            one.x.drawn(first[i]);
            one.x.on(100);
            meeting += one.x.now(3) > 0 ? 1 : 0;
            k.due("odds(" + (i + 1) + ", greatest)", k.x.odds(i + 1, GREATEST), meeting);
        }
    }

    /** Promise 30: "lives 0 .. 1 .. -2: another lives". */
    private static void judge() {
        for (int lives = -2; lives <= 4; lives++) {
            Check k = new Check("30", NICHE + "chair a 0 0 0 0 4 0;");
            k.x.on(1);
            k.plan("a e;");
            boolean is = lives == 0 || lives == 1;
            k.due("judge(" + lives + ")", k.x.judge(lives), is ? -1 : -2);
            k.dueChair(0, 0, lives == 1 ? 2 : 1);
            k.due("judged(1)", k.x.judged(1), is ? 1 : -1);
            k.due("undo()", k.x.undo(), lives == 1 ? 1 : 0);
        }
        Check k = new Check("30", NICHE + "chair a 0 0 0 0 4 0;");
        for (int n : FAR) {
            k.due("judge(" + n + ")", k.x.judge(n), -2);
        }
        // No PLAN, and one of 40.
        k.due("judge(0), no PLAN", k.x.judge(0), -1);
        k.due("judge(1), no PLAN", k.x.judge(1), -1);
        k.x.on(1);
        k.plan("a e;a w;".repeat(20));
        k.due("judge(0) of 40", k.x.judge(0), -1);
        k.due("judged(1)", k.x.judged(1), 40);
        k.plan("a e;a w;".repeat(19) + "a e;a n;");
        k.due("judge(0) of 40, the last one WRONG", k.x.judge(0), 39);
        k.due("judged(0)", k.x.judged(0), 2);
        k.due("judged(1)", k.x.judged(1), 39);
        k.due("judge(1)", k.x.judge(1), 39);
        k.dueChair(0, 0, 2);
        k.dueChair(0, 6, 40);
    }

    /** Promise 31: "NONE: another what, or ahead of any". */
    private static void judged() {
        Check k = new Check("31", NICHE + "chair a 0 0 0 0 4 0;");
        k.plan("a n;");
        for (int what = -2; what <= 5; what++) {
            k.due("judged(" + what + ") ahead of any", k.x.judged(what), -1);
        }
        k.due("judge(2)", k.x.judge(2), -2);
        for (int what = -2; what <= 5; what++) {
            k.due("judged(" + what + ") ahead of any that was not -2", k.x.judged(what), -1);
        }
        k.due("judge(0), not out", k.x.judge(0), 0);
        k.due("judged(0)", k.x.judged(0), 1);
        k.due("judged(1)", k.x.judged(1), 0);
        k.due("judged(2)", k.x.judged(2), 0);
        k.due("judge(-1)", k.x.judge(-1), -2);
        k.due("judged(0), as of the latest", k.x.judged(0), 1);
        for (int n : FAR) {
            k.due("judged(" + n + ")", k.x.judged(n), -1);
        }
        k.due("judged(-1)", k.x.judged(-1), -1);
        k.due("judged(3)", k.x.judged(3), -1);
        k.alleys("land 2 2;");
        k.due("judged(0) stays with new ALLEYS", k.x.judged(0), 1);
    }

    /** Promise 33: "how many (k NONE), or the k-th. NONE: there is no SENTENCE, none such." */
    private static void said() {
        for (int count = 0; count <= 8; count++) {
            Check k = new Check("33", chairs(count));
            for (int i = -2; i < 10; i++) {
                k.due("said(" + i + "), no SENTENCE", k.x.said(i), -1);
            }
            k.sentence("not sick");
            for (int i = -3; i < 11; i++) {
                int want = i == -1 ? count : i >= 0 && i < count ? i : -1;
                k.due("said(" + i + ") of " + count, k.x.said(i), want);
            }
            for (int n : FAR) {
                k.due("said(" + n + ")", k.x.said(n), -1);
            }
            k.sentence("sick");
            k.due("said(-1), of none", k.x.said(-1), 0);
            k.due("said(0), of none", k.x.said(0), -1);
            k.sentence("place=" + Math.max(count - 1, 0));
            k.due("said(-1), of the last one alone", k.x.said(-1), Math.min(count, 1));
            k.due("said(0), of the last one alone", k.x.said(0), count - 1);
            k.due("said(1), of the last one alone", k.x.said(1), -1);
            k.sentence("place=" + count);
            k.due("said(-1), of one behind the last", k.x.said(-1), 0);
        }
    }

    /** Promise 34, 35: "place k (0, 1) .. false: no such one, or nothing is kept there". */
    private static void images() {
        for (int place = -3; place <= 5; place++) {
            boolean is = place == 0 || place == 1;
            Check k = new Check("34, 35", KNOT);
            k.due("restore(" + place + "), nothing kept", k.x.restore(place), false);
            k.x.on(3);
            k.due("image(" + place + ")", k.x.image(place), is);
            k.x.on(4);
            for (int other = -2; other <= 3; other++) {
                if (other != place) {
                    k.due("restore(" + other + "), nothing kept", k.x.restore(other), false);
                }
            }
            k.due("now(0)", k.x.now(0), 7);
            k.due("restore(" + place + ")", k.x.restore(place), is);
            k.due("now(0)", k.x.now(0), is ? 3 : 7);
            k.due("undo()", k.x.undo(), is ? -1 : 1);
        }
        Check k = new Check("34, 35", KNOT);
        for (int n : FAR) {
            k.due("image(" + n + ")", k.x.image(n), false);
            k.due("restore(" + n + ")", k.x.restore(n), false);
        }
    }

    /** What is kept stays what it was, however often it is restored, till something else is kept there. */
    private static void imagesStay() {
        Check k = new Check("34, 35");
        k.due("image(0) of empty ALLEYS", k.x.image(0), true);
        k.alleys(KNOT);
        k.plan("a e;");
        k.sentence("rank=3");
        k.x.on(2);
        k.due("image(1)", k.x.image(1), true);
        k.x.lane(1, 1);
        k.x.on(60);
        k.x.drawn(5);
        k.plan("");
        k.sentence("rank=5 or rank=3");
        for (int i = 0; i < 2; i++) {
            k.due("restore(1)", k.x.restore(1), true);
            k.dueNow(2, 2, 0, 1, 0, 1);
            k.dueMet(0, 1, 0, 1, 2, 0);
            k.dueMet(1, -1);
            k.due("count(6)", k.x.count(6), 0);
            k.due("count(7)", k.x.count(7), 1);
            k.due("said(-1)", k.x.said(-1), 1);
            k.dueChair(0, 4, 0);
            k.due("undo()", k.x.undo(), -1);
            k.x.on(1);
            k.x.lane(0, 0);
            k.due("restore(0)", k.x.restore(0), true);
            k.due("count(2)", k.x.count(2), 0);
            k.due("said(-1)", k.x.said(-1), -1);
            k.due("undo()", k.x.undo(), -1);
        }
        k.x.restore(1);
        k.x.on(1);
        k.due("image(0) of something else", k.x.image(0), true);
        k.x.restore(1);
        k.due("now(0)", k.x.now(0), 2);
        k.x.restore(0);
        k.due("now(0)", k.x.now(0), 3);
    }

    /** "nothing can be undone": but what is done from then on can. */
    private static void actsBehindRestore() {
        Check k = new Check("14, 35", KNOT);
        k.x.on(1);
        k.x.image(0);
        for (int i = 0; i < 9; i++) {
            k.x.on(2);
        }
        k.due("restore(0)", k.x.restore(0), true);
        k.due("undo()", k.x.undo(), -1);
        for (int i = 1; i <= 9; i++) {
            k.due("on(3)", k.x.on(3), 3);
        }
        for (int i = 7; i >= 0; i--) {
            k.due("undo()", k.x.undo(), i);
        }
        k.due("undo()", k.x.undo(), -1);
        k.due("now(0)", k.x.now(0), 4);
        // A restore() that is refused leaves what can be undone.
        k.x.on(1);
        k.due("restore(1)", k.x.restore(1), false);
        k.due("undo()", k.x.undo(), 0);
        k.due("now(0)", k.x.now(0), 4);
    }

    /** Promise 36: "NONE for another what." */
    private static void count() {
        Check k = new Check("36", "land 4 3;wall 1 1;wall 2 1;stairs 0 0;wide 0 0;wide 1 0;wide 2 0;lane 3 0 s;lane 3 1 s;"
            + "lane 3 2 w;lane 2 2 w;chair a 0 0 0 0 3 0;");
        k.plan("a e;a e;a e;a e;a e;");
        k.x.feed(0, 0, 0, 0, 0);
        k.x.end(6);
        int[] due = {4, 3, 1, 2, 1, 3, 4, 5, 6};
        for (int what = -3; what < 13; what++) {
            k.due("count(" + what + ")", k.x.count(what), what >= 0 && what < 9 ? due[what] : -1);
        }
        for (int n : FAR) {
            k.due("count(" + n + ")", k.x.count(n), -1);
        }
    }

    /** "An object is used for at most 512 calls": the 512th is answered like the first. */
    private static void manyCalls() {
        ChairAlley x = new ChairAlley();
        Check k = new Check("all");
        // 1 call of feed, 1 of alleys, 127 times four: 510.
        k.due("feed", x.feed(0x6c616e64, 0x20332032, 0x3b202020, 0x20202020, 0x20202020), 20);
        k.due("alleys()", x.alleys(), 1);
        for (int i = 0; i < 127; i++) {
            k.due("on(1)", x.on(1), 1);
            k.due("lane", x.lane(i % 3, i % 2), true);
            k.due("undo()", x.undo(), Math.min(i + 1, 7));
            k.due("count(6)", x.count(6), 0);
        }
        k.due("now(0), the 511th call", x.now(0), 127);
        k.due("undo(), the 512th call", x.undo(), 6);
        ChairAlley y = new ChairAlley();
        for (int i = 0; i < 511; i++) {
            k.due("image", y.image(i % 2), true);
        }
        k.due("restore(0), the 512th call", y.restore(0), true);
    }
}
