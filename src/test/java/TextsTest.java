/** Promises 1 to 5, 29 and 32: the tape, and what is read from it. */
public final class TextsTest {
    private static final String TWO = "land 4 4;chair a 0 0 1 1 1 1;chair b 2 2 1 1 1 1;";

    public static void main(String[] args) {
        aNewObject();
        feed();
        end();
        goodAlleys();
        faultsOfAlleys();
        mostOfEach();
        namesThatCannotBe();
        tokens();
        tooManyBytes();
        plans();
        sentences();
        Check.close("TextsTest");
    }

    private static void aNewObject() {
        Check k = new Check("1");
        for (int what = 0; what < 9; what++) {
            k.due("count(" + what + ")", k.x.count(what), 0);
        }
        k.dueNow(0, 0, 0, 0, 0, 0, -1);
        k.due("fault()", k.x.fault(), 0);
        k.due("judged(0)", k.x.judged(0), -1);
        k.due("judged(2)", k.x.judged(2), -1);
        k.due("step(0)", k.x.step(0), -1);
        k.due("said(-1)", k.x.said(-1), -1);
        k.due("undo()", k.x.undo(), -1);
        k.due("restore(1)", k.x.restore(1), false);
        k.dueChair(0, 0, Check.THROWN);
        k.dueCell(0, 0, Check.THROWN);
    }

    private static void feed() {
        Check k = new Check("2");
        for (int i = 1; i <= 47; i++) {
            k.due("feed", k.x.feed(i, -i, i << 16, 7, 8), 20 * i);
        }
        k.due("feed of a full tape", k.x.feed(1, 2, 3, 4, 5), -1);
        k.due("count(8)", k.x.count(8), 940);
        k.due("end(921)", k.x.end(921), true);
        k.due("feed behind 921", k.x.feed(1, 2, 3, 4, 5), -1);
        k.due("count(8)", k.x.count(8), 921);
        k.due("end(920)", k.x.end(920), true);
        k.due("feed behind 920", k.x.feed(1, 2, 3, 4, 5), 940);
        k = new Check("2");
        // "land 3 2;wall 2 1; \n", the highest byte first.
        k.due("feed", k.x.feed(0x6c616e64, 0x20332032, 0x3b77616c, 0x6c203220, 0x313b200a), 20);
        k.due("alleys()", k.x.alleys(), 2);
        k.due("count(0)", k.x.count(0), 3);
        k.dueCell(12, 0, 1);
        k = new Check("2");
        // Bytes above 127 are no TOKENS.
        k.x.feed(0xe9202020, 0x20202020, 0x20202020, 0x20202020, 0x20202020);
        k.dueFault("e9", k.x.alleys(), 0, 1);
    }

    private static void end() {
        Check k = new Check("3");
        k.due("end(0)", k.x.end(0), true);
        k.due("end(1)", k.x.end(1), false);
        k.x.feed(0, 0, 0, 0, 0);
        k.due("end(21)", k.x.end(21), false);
        k.due("end(-1)", k.x.end(-1), false);
        k.due("end(least)", k.x.end(Integer.MIN_VALUE), false);
        k.due("count(8)", k.x.count(8), 20);
        k.due("end(20)", k.x.end(20), true);
        k.due("end(7)", k.x.end(7), true);
        k.due("end(8)", k.x.end(8), false);
        k.due("count(8)", k.x.count(8), 7);
        k.due("feed", k.x.feed(0, 0, 0, 0, 0), 27);
    }

    private static void goodAlleys() {
        Check k = new Check("4");
        k.due("alleys() of an empty tape", k.x.alleys(), 0);
        k.due("alleys() of blanks", k.alleys(" \n  "), 0);
        String all = "land 10 002;wall 9 1;wall 8 1;stairs 9 1;stairs 0 0;wide 0 0;lane 0 0 w;lane 3 1 s;"
            + "chair a 0 0 9 0 5 1;chair abcdefg 1 0 0 9 5 1;start a 99;sick abcdefg;law come rank load;";
        k.due("alleys()", k.alleys(all), 13);
        k.due("fault()", k.x.fault(), 0);
        int[] counts = {10, 2, 2, 2, 2, 1, 2, 0, 0, -1};
        for (int what = 0; what < counts.length; what++) {
            k.due("count(" + what + ")", k.x.count(what), counts[what]);
        }
        k.due("count(-1)", k.x.count(-1), -1);
        k.dueCell(19, 0, 1);
        k.dueCell(19, 1, 1);
        k.dueCell(0, 2, 1);
        k.dueCell(0, 3, 3);
        k.dueCell(13, 3, 2);
        int[] a = {-1, 9, 0, 15, 99, 0, 0, 0, 0, -1};
        int[] b = {-1, 0, 9, 15, 0, 1, 0, 0, 0, -1};
        for (int what = 0; what < 10; what++) {
            k.dueChair(0, what, a[what]);
            k.dueChair(1, what, b[what]);
        }
        // A FAULT: all stays, but the tape is empty.
        k.due("plan()", k.plan("a n;"), 1);
        k.due("sentence()", k.sentence("sick"), 1);
        k.due("on(3)", k.x.on(3), 3);
        k.due("alleys() with a FAULT", k.alleys("land 5 5;wall"), -14);
        k.due("count(8)", k.x.count(8), 0);
        k.due("count(0)", k.x.count(0), 10);
        k.due("count(7)", k.x.count(7), 1);
        k.due("said(-1)", k.x.said(-1), 1);
        k.due("now(0)", k.x.now(0), 3);
        // New ones: nothing of the old.
        k.due("alleys()", k.alleys("land 2 2\n;\nchair a 0 0 1 1 1 1;"), 2);
        k.due("count(7)", k.x.count(7), 0);
        k.due("said(-1)", k.x.said(-1), -1);
        k.due("now(0)", k.x.now(0), 0);
        k.due("undo()", k.x.undo(), -1);
        k.due("count(8)", k.x.count(8), 0);
        k.due("order(1)", k.x.order(1), -1);
        // Without a land there may still be a law.
        k.due("alleys() of a law", k.alleys("law load;"), 1);
        k.due("count(0)", k.x.count(0), 0);
    }

    private static void fault(String text, int place, int kind) {
        Check k = new Check("4, 5");
        k.dueFault(text, k.alleys(text), place, kind);
        k.due("fault() behind a good one", k.alleys("land 2 2;") == 1 ? k.x.fault() : -9, 0);
    }

    private static void faultsOfAlleys() {
        fault(";", 0, 1);
        fault("walls 1 1;", 0, 1);
        fault("land;", 4, 1);
        fault("land 2", 6, 1);
        fault("land 2 2", 8, 1);
        fault("land 2 2 2;", 9, 1);
        fault("land 1 2;", 5, 2);
        fault("land 11 2;", 5, 2);
        fault("land 2 1;", 7, 2);
        fault("land 2 11;", 7, 2);
        fault("land 2 2;land 2 2;", 9, 3);
        fault("land 2 2;\n land 2 2;", 11, 3);
        fault("land 2 2;land x", 9, 3);
        fault("wall 0 0;land 2 2;", 5, 2);
        fault("chair a 0 0 1 1 1 1;", 8, 2);
        fault("lane 0 0 n;", 5, 2);
        fault("land 3 2;wall 3 0;", 14, 2);
        fault("land 3 2;wall 2 2;", 16, 2);
        fault("land 3 2;wall n 0;", 14, 1);
        fault("land 3 2;wall 2 1 n;", 18, 1);
        fault("land 3 2;wall 2 1;wall 2 1;", 25, 3);
        fault("land 3 2;wide 2 1;stairs 2 1;wall 2 1;wide 2 1;", 45, 3);
        fault("land 3 2;stairs 2 1;stairs 2 1;", 29, 3);
        fault("land 3 2;lane 2 1;", 17, 1);
        fault("land 3 2;lane 2 1 ne;", 18, 1);
        fault("land 3 2;lane 2 1 n;lane 2 1 n;", 27, 3);
        fault("land 3 2;chair a 3 0 1 1 1 1;", 17, 2);
        fault("land 3 2;chair a 2 2 1 1 1 1;", 19, 2);
        fault("land 3 2;chair a 2 1 10 1 1 1;", 21, 2);
        fault("land 3 2;chair a 2 1 1 10 1 1;", 23, 2);
        fault("land 3 2;chair a 2 1 1 1 3 1;", 25, 2);
        fault("land 3 2;chair a 2 1 1 1 1 2;", 27, 2);
        fault("land 3 2;chair a 2 1 1 1 1;", 26, 1);
        fault("land 3 2;wall 2 1;chair a 2 1 1 1 1 1;", 28, 5);
        fault("land 3 2;wall 2 1;chair a 1 1 1 1 2 1;", 36, 5);
        fault(TWO + "chair b 0 0 1 1 1 1;", TWO.length() + 6, 3);
        fault(TWO + "start c 0;", TWO.length() + 6, 3);
        fault(TWO + "start a 100;", TWO.length() + 8, 2);
        fault(TWO + "start a 0;start a 0;", TWO.length() + 16, 3);
        fault(TWO + "start a;", TWO.length() + 7, 1);
        fault(TWO + "sick c;", TWO.length() + 5, 3);
        fault(TWO + "sick 1;", TWO.length() + 5, 1);
        fault(TWO + "sick a;sick b;sick a;", TWO.length() + 19, 3);
        fault("law;", 3, 1);
        fault("law rank, load;", 8, 1);
        fault("law rank backs;", 9, 1);
        fault("law rank load come rank;", 19, 3);
        fault("law rank load rank;", 14, 3);
        fault("law rank load come backs;", 19, 1);
        fault("law rank;law;", 9, 3);
    }

    private static void mostOfEach() {
        StringBuilder walls = new StringBuilder("land 10 10;");
        for (int i = 0; i < 40; i++) {
            walls.append("wall ").append(i % 10).append(' ').append(i / 10).append(';');
        }
        Check k = new Check("4");
        k.due("alleys() of 40 walls", k.alleys(walls.toString()), 41);
        k.due("count(3)", k.x.count(3), 40);
        fault(walls + "wall 0 9;", walls.length(), 4);
        fault(walls + "wall ?", walls.length(), 4);
        for (String sort : new String[] {"stairs", "wide"}) {
            StringBuilder text = new StringBuilder("land 10 10;");
            for (int i = 0; i < 12; i++) {
                text.append(sort).append(' ').append(i % 10).append(' ').append(i / 10).append(';');
            }
            k.due("alleys() of 12 " + sort, k.alleys(text.toString()), 13);
            fault(text + sort + " 0 9;", text.length(), 4);
            fault(text + sort + " 0 0;", text.length(), 4);
        }
        StringBuilder lanes = new StringBuilder("land 10 10;");
        for (int i = 0; i < 20; i++) {
            lanes.append("lane ").append(i % 10).append(' ').append(i / 10).append(" e;");
        }
        k.due("alleys() of 20 lanes", k.alleys(lanes.toString()), 21);
        fault(lanes + "lane 0 9 n;", lanes.length(), 4);
        StringBuilder chairs = new StringBuilder("land 2 2;");
        for (String name : new String[] {"a", "b", "c", "d", "f", "g", "h", "i"}) {
            chairs.append("chair ").append(name).append(" 0 0 0 0 1 1;");
        }
        k.due("alleys() of 8 CHAIRS", k.alleys(chairs.toString()), 9);
        fault(chairs + "chair a 0 0 0 0 1 1;", chairs.length(), 4);
        fault(chairs + "chair n", chairs.length(), 4);
    }

    private static void namesThatCannotBe() {
        String[] words = {"land", "wall", "stairs", "wide", "lane", "chair", "start", "sick", "law", "rank", "load",
            "come", "n", "e", "s", "w", "or", "and", "not", "there", "ahead", "backs", "waits", "place"};
        for (String word : words) {
            fault("land 2 2;chair " + word + " 0 0 0 0 1 1;", 15, 1);
            fault("land 2 2;sick " + word + ";", 14, 1);
        }
        fault("land 2 2;chair 7 0 0 0 0 1 1;", 15, 1);
        fault("land 2 2;chair abcdefgh 0 0 0 0 1 1;", 15, 1);
        for (String word : new String[] {"lan", "lands", "x", "orr", "an", "places", "minute", "zzzzzzz"}) {
            Check k = new Check("4");
            k.due("alleys() with a CHAIR " + word, k.alleys("land 2 2;chair " + word + " 0 0 0 0 1 1;"), 2);
        }
    }

    private static void tokens() {
        fault("land 2 2;wall 0000 0;", 14, 1);
        fault("land 2 2;wall 0a 0;", 14, 1);
        fault("land 2 2;wall0 0 0;", 9, 1);
        fault("land2 2;", 0, 1);
        fault("land 2 2.", 8, 1);
        fault("land 2 2;Wall 0 0;", 9, 1);
        fault("land 2 2;wAll 0 0;", 9, 1);
        fault("land\t2 2;", 4, 1);
        fault("land 2\r2;", 6, 1);
        Check k = new Check("4");
        k.due("alleys() with blanks", k.alleys("\n land\n2 02 ;  wall 001\n\n1;stairs 1 000;"), 3);
        k.dueCell(11, 0, 1);
        k.dueCell(1, 1, 1);
    }

    private static void tooManyBytes() {
        String head = "land 2 2;";
        Check k = new Check("5");
        k.due("alleys() of 900 bytes", k.alleys(head + Check.blanks(891)), 1);
        fault(head + Check.blanks(892), 900, 1);
        fault(head + Check.blanks(931), 900, 1);
        k.due("alleys() of 900 bytes", k.alleys(head + Check.blanks(882) + "wall 0 0;"), 2);
        fault(head + Check.blanks(883) + "wall 0 0;", 900, 1);
        // The TOKEN that is wrong begins at 899, or at 900.
        fault(head + Check.blanks(883) + "wall 0 10;", 899, 2);
        fault(head + Check.blanks(884) + "wall 0 10;", 900, 1);
        // TOKENS that begin ahead of it are read whole.
        fault(head + Check.blanks(889) + "wall 0 0;", 900, 1);
        fault(head + Check.blanks(889) + "wally 0 0;", 898, 1);
        fault(head + Check.blanks(890) + "abcdefgh", 899, 1);
        fault(head + Check.blanks(891) + "abcdefgh", 900, 1);
        fault(head + "wall" + Check.blanks(920), 900, 1);
        fault(head + "wall" + Check.blanks(800) + "x" + Check.blanks(100), 813, 1);
        k = new Check("29", TWO);
        k.due("plan() of 400 bytes", k.plan("a n;" + Check.blanks(396)), 1);
        k.dueFault("401 bytes", k.plan("a n;" + Check.blanks(397)), 400, 1);
        k.dueFault("a TOKEN over 400", k.plan(Check.blanks(399) + "ab n;"), 399, 3);
        k.due("sentence() of 200 bytes", k.sentence("sick" + Check.blanks(196)), 1);
        k.dueFault("201 bytes", k.sentence("sick" + Check.blanks(197)), 200, 1);
        k.dueFault("a TOKEN over 200", k.sentence(Check.blanks(199) + "sicks"), 199, 1);
        k.dueFault("a ONE over 200", k.sentence(Check.blanks(199) + "sick"), 200, 1);
    }

    private static void plans() {
        Check k = new Check("29", TWO);
        k.due("plan()", k.plan("a n;b e ;\na\ns;b w;"), 4);
        k.due("count(7)", k.x.count(7), 4);
        k.due("count(8)", k.x.count(8), 0);
        k.dueFault("a", k.plan("a"), 1, 1);
        k.dueFault("a n", k.plan("a n"), 3, 1);
        k.dueFault("a;", k.plan("a;"), 1, 1);
        k.dueFault("a b;", k.plan("a b;"), 2, 1);
        k.dueFault("c n;", k.plan("a n;c n;"), 4, 3);
        k.dueFault("n n;", k.plan("a n;n n;"), 4, 1);
        k.dueFault("1 n;", k.plan("1 n;"), 0, 1);
        k.due("count(7) behind FAULTS", k.x.count(7), 4);
        k.due("count(8) behind FAULTS", k.x.count(8), 0);
        String forty = "a n;".repeat(40);
        k.due("plan() of 40", k.plan(forty), 40);
        k.dueFault("41", k.plan(forty + "b n;"), 160, 4);
        k.dueFault("41, not told", k.plan(forty + "c n;"), 160, 3);
        k.dueFault("41, no NAME", k.plan(forty + ";"), 160, 1);
        k.due("plan() of nothing", k.plan(""), 0);
        k.due("count(7)", k.x.count(7), 0);
        k.due("fault()", k.x.fault(), 0);
    }

    private static void sentences() {
        Check k = new Check("32", TWO);
        k.due("sentence()", k.sentence("not(rank<1 or ahead b and not place=0)or there"), 7);
        k.due("sentence()", k.sentence("rank<1 and load=2 or come>3 or backs<999 and waits=000 or place>12"), 6);
        k.due("sentence()", k.sentence("sick"), 1);
        k.due("sentence()", k.sentence("( sick )"), 2);
        k.dueFault("", k.sentence(""), 0, 1);
        k.dueFault(" ", k.sentence("  \n"), 3, 1);
        k.dueFault("not", k.sentence("not"), 3, 1);
        k.dueFault("sick;", k.sentence("sick;"), 4, 1);
        k.dueFault("sick sick", k.sentence("sick sick"), 5, 1);
        k.dueFault("sick or", k.sentence("sick or"), 7, 1);
        k.dueFault("or", k.sentence("sick or or"), 8, 1);
        k.dueFault("(sick", k.sentence("(sick"), 5, 1);
        k.dueFault("sick)", k.sentence("sick)"), 4, 1);
        k.dueFault("()", k.sentence("()"), 1, 1);
        k.dueFault("ahead", k.sentence("ahead c"), 6, 3);
        k.dueFault("ahead sick", k.sentence("ahead sick"), 6, 1);
        k.dueFault("ahead 1", k.sentence("ahead 1"), 6, 1);
        k.dueFault("rank 1", k.sentence("rank 1"), 5, 1);
        k.dueFault("rank<a", k.sentence("rank<a"), 5, 1);
        k.dueFault("rank<<1", k.sentence("rank<<1"), 5, 1);
        k.dueFault("rank<1000", k.sentence("rank<1000"), 5, 1);
        k.dueFault("a", k.sentence("a"), 0, 1);
        k.dueFault("start", k.sentence("start=1"), 0, 1);
        k.due("said(-1): the old one stays", k.x.said(-1), 0);
        String twenty = "sick" + " or sick".repeat(19);
        k.due("sentence() of 20 ONES", k.sentence(twenty), 20);
        k.dueFault("21 ONES", k.sentence(twenty + " or sick"), twenty.length() + 4, 4);
        k.dueFault("21 ONES, none", k.sentence(twenty + " or a"), twenty.length() + 4, 1);
        k.due("sentence() 8 within", k.sentence("not ".repeat(7) + "sick"), 8);
        k.dueFault("9 within", k.sentence("not ".repeat(8) + "sick"), 32, 4);
        k.due("sentence() 8 within", k.sentence("(((((((sick)))))))"), 8);
        k.dueFault("9 within", k.sentence("((((((((sick))))))))"), 8, 4);
        k.dueFault("9 within, none", k.sentence("((((((((a))))))))"), 8, 1);
        k.due("said(-1): that of 8 within", k.x.said(-1), 0);
        k.due("sentence() side by side", k.sentence("(sick)or(sick)or(sick)and not not sick"), 9);
    }
}
