import java.util.Random;

/** Calls of all kinds, with any numbers: but for what the document names nothing is thrown, and each call ends. */
public final class MachineTest {
    private static final int[] EDGES = {Integer.MIN_VALUE, Integer.MIN_VALUE + 1, -1001, -100, -2, -1, 0, 1, 2, 3, 4, 7,
        8, 9, 10, 11, 19, 20, 21, 29, 30, 31, 36, 39, 40, 41, 59, 60, 61, 79, 99, 100, 101, 499, 500, 512, 900, 940, 941,
        1 << 16, 1 << 30, Integer.MAX_VALUE - 1, Integer.MAX_VALUE};

    public static void main(String[] args) {
        int runs = Integer.getInteger("runs", 3000);
        long calls = 0;
        for (int seed = 0; seed < runs; seed++) {
            calls += run(seed);
        }
        System.out.println("MachineTest: " + calls + " calls, none threw what it may not");
    }

    private static int run(int seed) {
        Random random = new Random(seed);
        Texts texts = new Texts(random);
        Check k = new Check("all");
        int calls = 0;
        if (random.nextInt(10) != 0) {
            k.alleys(texts.alleys());
        }
        for (int i = 0; i < 100; i++) {
            int method = random.nextInt(Face.NAMES.length);
            int[] arguments = new int[Face.ARGUMENTS[method]];
            for (int a = 0; a < arguments.length; a++) {
                arguments[a] = random.nextInt(3) == 0 ? EDGES[random.nextInt(EDGES.length)] : random.nextInt(12) - 1;
            }
            try {
                text(k, texts, Face.NAMES[method], random);
                Face.call(k.x, method, arguments);
            } catch (RuntimeException e) {
                System.out.println("run " + seed + ", call " + i + ", " + Face.NAMES[method] + ": " + e);
                System.exit(1);
            }
            calls++;
        }
        return calls;
    }

    private static void text(Check k, Texts texts, String method, Random random) {
        String text = method.equals("plan") ? texts.plan() : method.equals("sentence") ? texts.sentence()
            : method.equals("alleys") ? texts.alleys() : null;
        if (text == null) {
            return;
        }
        if (random.nextInt(3) == 0) {
            text = texts.spoil(text);
        }
        k.x.end(0);
        k.write(text.length() > 940 ? text.substring(0, 940) : text);
    }
}
