import java.lang.management.ManagementFactory;

/**
 * All calls of one run live in one room, and nothing in it is given back: so an object takes what it needs once, and its
 * dearest calls make next to nothing. What is made is counted in bytes, by the machine's own count for this thread.
 */
public final class RoomTest {
    /** An object, its images and acts kept, and the rows of the greatest knot: some 120,000 elements. */
    private static final long MOST_FOR_ALL = 500_000;
    private static final long MOST_FOR_A_CALL = 200;
    /** Three CHAIRS out on 36 CELLS, and MINUTES in which they meet. */
    private static final String KNOT = "land 6 6;chair a 0 0 3 1 5 5;chair b 5 5 2 1 0 0;chair c 0 5 1 1 5 0;law rank;"
        + "wall 1 1;wall 2 2;wall 4 4;wide 3 3;stairs 2 3;";
    private static final String PLAN = "a s;a n;b n;b s;";
    private static final String SENTENCE = "not (rank>1 or ahead b) and waits<9";

    public static void main(String[] args) {
        for (int method = 0; method < Face.NAMES.length; method++) {
            manyCalls(method);
        }
        Check.close("RoomTest");
    }

    /** A machine that does not count has nothing to be held against. */
    private static long madeSoFar() {
        if (ManagementFactory.getThreadMXBean() instanceof com.sun.management.ThreadMXBean bean) {
            return bean.getCurrentThreadAllocatedBytes();
        }
        return 0;
    }

    private static void manyCalls(int method) {
        Check k = new Check("the room");
        String name = Face.NAMES[method];
        // Of CHAIR 1 and CELL 1, so that nothing is thrown: exceptions are made, too.
        int[] arguments = {1, 0, 2, -1, 3};
        long before = madeSoFar();
        ChairAlley x = new ChairAlley();
        take(x, KNOT).alleys();
        take(x, PLAN).plan();
        take(x, SENTENCE).sentence();
        x.on(2);
        x.image(0);
        x.image(1);
        k.due("now(1)", x.now(1), 3);
        k.due("untied() can be", x.untied() > 0, true);
        for (int i = 0; i < 8; i++) {
            x.lane(0, i % 2);
        }
        x.lane(0, -1);
        long ready = madeSoFar();
        for (int i = 0; i < 400; i++) {
            Face.call(x, method, arguments);
        }
        long after = madeSoFar();
        k.due("bytes made by an object that is ready, " + (ready - before) + ", are few enough",
            ready - before <= MOST_FOR_ALL, true);
        k.due("bytes made by a call of " + name + ", " + (after - ready) / 400 + ", are few enough",
            (after - ready) / 400 <= MOST_FOR_A_CALL, true);
    }

    private static ChairAlley take(ChairAlley x, String text) {
        for (int[] row : Calls.writing(text)) {
            int[] arguments = new int[row.length - 1];
            System.arraycopy(row, 1, arguments, 0, arguments.length);
            Face.call(x, row[0], arguments);
        }
        return x;
    }
}
