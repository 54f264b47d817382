import java.util.Arrays;

/** Runs at random of 512 calls each, every one answered by the class and by the model. */
public final class RandomRunsTest {
    private static final int RUNS = Integer.getInteger("runs", 300);
    private static int wrong = 0;
    private static final long[] CALLS = new long[Face.NAMES.length];
    private static final long[] TOLD = new long[Face.NAMES.length];

    /** In some all is looked at now and then, in some there are the more acts, in some counsel is asked for. */
    private static Calls calls(int seed) {
        Calls calls = new Calls(seed);
        if (seed % 8 != 7) {
            calls.alleys();
        }
        for (int i = 1; i < Calls.MOST && !calls.isFull(); i++) {
            calls.addAny();
            switch (seed % 3) {
                case 0: calls.addAct(); break;
                case 1: calls.addCounsel(); break;
                default: break;
            }
            if (i % 20 == 0) {
                calls.addEverything();
            }
        }
        return calls;
    }

    private static void run(int seed) {
        Calls calls = calls(seed);
        ChairAlley real = new ChairAlley();
        Model model = new Model();
        for (int i = 0; i < calls.rows.size(); i++) {
            int[] row = calls.rows.get(i);
            int[] arguments = Arrays.copyOfRange(row, 1, row.length);
            long due = Face.call(model, row[0], arguments);
            long got = Face.call(real, row[0], arguments);
            CALLS[row[0]]++;
            boolean isLater = Face.NAMES[row[0]].equals("lent") && due < 0 && due > -1000;
            TOLD[row[0]] += due > 0 || isLater ? 1 : 0;
            if (got != due) {
                wrong++;
                tell(seed, calls, i, got, due);
                return;
            }
        }
    }

    private static void tell(int seed, Calls calls, int last, long got, long due) {
        if (wrong < 4) {
            for (int i = 0; i <= last; i++) {
                System.out.println(Calls.told(calls.rows.get(i)));
            }
        }
        System.out.println("run " + seed + ": the last call answered " + got + ", due is " + due);
    }

    public static void main(String[] args) {
        int first = Integer.getInteger("first", 0);
        for (int seed = first; seed < first + RUNS; seed++) {
            run(seed);
        }
        if (Boolean.getBoolean("stats")) {
            for (int i = 0; i < CALLS.length; i++) {
                System.out.println(Face.NAMES[i] + ": " + CALLS[i] + " calls, " + TOLD[i] + " answers above 0");
            }
        }
        System.out.println(RUNS + " runs, " + wrong + " of them wrong");
        if (wrong != 0) {
            System.exit(1);
        }
    }
}
