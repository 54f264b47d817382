import java.util.function.IntPredicate;

/**
 * Of which CHAIRS a SENTENCE may be said: joints and brackets in all their cases, the most ONES and the deepest nest. Of
 * eight CHAIRS the bits of each one's number are its rank, its load and whether it is sick.
 */
public final class SaidTest {
    private static final int MOST_BYTES = 200;

    public static void main(String[] args) {
        joints();
        nots();
        brackets();
        eachOfTwentyByOr();
        eachOfTwentyByAnd();
        twentyOfAllSorts();
        deepestNest();
        eightNots();
        numbersBelowLikeAndAbove();
        ofNoneAndOfAll();
        Check.close("SaidTest");
    }

    private static boolean rank(int c) {
        return (c & 1) != 0;
    }

    private static boolean load(int c) {
        return (c & 2) != 0;
    }

    private static boolean sick(int c) {
        return (c & 4) != 0;
    }

    private static String eight() {
        StringBuilder text = new StringBuilder("land 3 3;");
        for (int c = 0; c < 8; c++) {
            String name = "q" + (char) ('a' + c);
            text.append("chair ").append(name).append(" 0 0 ").append(c & 1).append(' ').append(c >> 1 & 1).append(" 2 2;");
            text.append(sick(c) ? "sick " + name + ";" : "");
        }
        return text.toString();
    }

    private static void due(String sentence, int ones, IntPredicate isSaid) {
        Check k = new Check("32, 33", eight());
        k.due("'" + sentence + "' is not too long", sentence.length() <= MOST_BYTES, true);
        k.due("sentence() of '" + sentence + "'", k.sentence(sentence), ones);
        int found = 0;
        for (int c = 0; c < 8; c++) {
            if (isSaid.test(c)) {
                k.due("said(" + found + ") of '" + sentence + "'", k.x.said(found), c);
                found++;
            }
        }
        k.due("said(" + found + ") of '" + sentence + "'", k.x.said(found), -1);
        k.due("said(-1) of '" + sentence + "'", k.x.said(-1), found);
    }

    /** "COND: ALL { 'or' ALL }. ALL: ONE { 'and' ONE }.": 'and' holds closer. */
    private static void joints() {
        due("rank=1", 1, c -> rank(c));
        due("rank=1 or load=1", 2, c -> rank(c) || load(c));
        due("rank=1 and load=1", 2, c -> rank(c) && load(c));
        due("rank=1 or load=1 or sick", 3, c -> rank(c) || load(c) || sick(c));
        due("rank=1 and load=1 and sick", 3, c -> rank(c) && load(c) && sick(c));
        due("rank=1 or load=1 and sick", 3, c -> rank(c) || load(c) && sick(c));
        due("rank=1 and load=1 or sick", 3, c -> rank(c) && load(c) || sick(c));
        due("rank=1 and load=1 or sick and rank=0", 4, c -> rank(c) && load(c) || sick(c) && !rank(c));
        due("rank=1 or load=1 and sick or load=0", 4, c -> rank(c) || load(c) && sick(c) || !load(c));
    }

    /** "'not' ONE": of the one that comes next alone. */
    private static void nots() {
        due("not sick", 2, c -> !sick(c));
        due("not not sick", 3, c -> sick(c));
        due("not not not sick", 4, c -> !sick(c));
        due("not rank=1 or load=1", 3, c -> !rank(c) || load(c));
        due("not rank=1 and load=1", 3, c -> !rank(c) && load(c));
        due("rank=1 or not load=1", 3, c -> rank(c) || !load(c));
        due("rank=1 and not load=1 or sick", 4, c -> rank(c) && !load(c) || sick(c));
        due("not rank=1 and not load=1 and not sick", 6, c -> !rank(c) && !load(c) && !sick(c));
        due("not (rank=1 or load=1)", 4, c -> !(rank(c) || load(c)));
        due("not (rank=1 and load=1) or sick", 5, c -> !(rank(c) && load(c)) || sick(c));
        due("not (not (not sick))", 6, c -> !sick(c));
    }

    private static void brackets() {
        due("(sick)", 2, c -> sick(c));
        due("(rank=1 or load=1) and sick", 4, c -> (rank(c) || load(c)) && sick(c));
        due("rank=1 and (load=1 or sick)", 4, c -> rank(c) && (load(c) || sick(c)));
        due("rank=1 or (load=1 or sick)", 4, c -> rank(c) || load(c) || sick(c));
        due("rank=1 and (load=1 and sick)", 4, c -> rank(c) && load(c) && sick(c));
        due("rank=1 or (load=1 and sick)", 4, c -> rank(c) || load(c) && sick(c));
        due("(rank=1 and load=1) or (sick and rank=0)", 6, c -> rank(c) && load(c) || sick(c) && !rank(c));
        due("(rank=1 or load=1) and (sick or rank=0)", 6, c -> (rank(c) || load(c)) && (sick(c) || !rank(c)));
        due("rank=1 and (load=1 or (sick and (rank=0 or load=0)))", 8,
            c -> rank(c) && (load(c) || sick(c) && (!rank(c) || !load(c))));
        due("((rank=1 or sick) and load=1 or rank=0) and (sick or load=0)", 9,
            c -> ((rank(c) || sick(c)) && load(c) || !rank(c)) && (sick(c) || !load(c)));
    }

    /** Each of 20 ONES counts: the first, the last and all between. */
    private static void eachOfTwentyByOr() {
        for (int place = 0; place < 20; place++) {
            StringBuilder text = new StringBuilder();
            for (int i = 0; i < 20; i++) {
                text.append(i == 0 ? "" : " or ").append(i == place ? "place=3" : "there");
            }
            due(text.toString(), 20, c -> c == 3);
        }
    }

    private static void eachOfTwentyByAnd() {
        for (int place = 0; place < 20; place++) {
            StringBuilder text = new StringBuilder();
            for (int i = 0; i < 20; i++) {
                text.append(i == 0 ? "" : " and ").append(i == place ? "rank=1" : "sick");
            }
            due(text.toString(), 20, c -> sick(c) && rank(c));
        }
    }

    private static void twentyOfAllSorts() {
        // Ten times 'and', nine times 'or': all but the last two are of none.
        due("there and sick or there and sick or there and sick or there and sick or there and sick or there and sick or "
            + "there and sick or there and sick or there and sick or load=1 and sick", 20, c -> load(c) && sick(c));
        due("not sick or not sick or not sick or not sick or not sick or not sick or not sick or not sick or not sick or "
            + "not rank=1", 20, c -> !sick(c) || !rank(c));
        due("(sick)and(sick)and(sick)and(sick)and(sick)and(sick)and(sick)and(sick)and(sick)and(load=1)", 20,
            c -> sick(c) && load(c));
    }

    /** Eight within one another, with answers of each level waiting to be joined. */
    private static void deepestNest() {
        String head = "there or(rank<2 and(there or(rank<2 and(there or(rank<2 and(there or(";
        due(head + "load=1)))))))", 15, c -> load(c));
        due(head + "load=1 and sick)))))))", 16, c -> load(c) && sick(c));
        due(head + "load=1 or sick and rank=1)))))))", 17, c -> load(c) || sick(c) && rank(c));
        due("rank=1 and(load=1 and(rank<2 and(rank<2 and(rank<2 and(rank<2 and(rank<2 and(sick)))))))", 15,
            c -> rank(c) && load(c) && sick(c));
        due("rank=1 or(load=1 or(there or(there or(there or(there or(there or(sick)))))))", 15,
            c -> rank(c) || load(c) || sick(c));
        due("sick and(load=1 or(rank=1 and(sick or(load=0 and(rank=0 or(there or(rank=1 and load=0)))))))", 16,
            c -> sick(c) && (load(c) || rank(c)));
    }

    private static void eightNots() {
        for (int n = 0; n <= 7; n++) {
            boolean denied = n % 2 == 1;
            due("not ".repeat(n) + "sick", n + 1, c -> sick(c) != denied);
        }
        for (int n = 0; n <= 3; n++) {
            boolean denied = n % 2 == 1;
            due("not(".repeat(n) + "sick" + ")".repeat(n), 2 * n + 1, c -> sick(c) != denied);
            due("not(".repeat(n) + "not sick" + ")".repeat(n), 2 * n + 2, c -> sick(c) == denied);
        }
    }

    /** "SIGN NUMBER": one less and one more are not like. */
    private static void numbersBelowLikeAndAbove() {
        for (int n = 0; n <= 9; n++) {
            int number = n;
            due("place<" + n, 1, c -> c < number);
            due("place=" + n, 1, c -> c == number);
            due("place>" + n, 1, c -> c > number);
            due("rank<" + n, 1, c -> (c & 1) < number);
            due("load>" + n, 1, c -> (c >> 1 & 1) > number);
            due("come=" + n, 1, c -> number == 0);
            due("backs<" + n, 1, c -> number > 0);
            due("waits>" + n, 1, c -> false);
        }
    }

    private static void ofNoneAndOfAll() {
        due("there", 1, c -> false);
        due("not there", 2, c -> true);
        due("place<8", 1, c -> true);
        due("place>7", 1, c -> false);
        // Sick ones are ahead, and of like ones the first; nobody is ahead of itself.
        due("ahead qa", 1, c -> sick(c));
        due("ahead qe", 1, c -> false);
        due("ahead qd", 1, c -> sick(c) || c < 3);
        due("ahead qh", 1, c -> c > 3 && c < 7);
        due("ahead qg and not ahead qf", 3, c -> c == 5);
    }
}
