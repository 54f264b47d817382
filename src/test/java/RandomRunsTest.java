import java.util.ArrayList;
import java.util.Arrays;
import java.util.List;
import java.util.Random;

/** Runs at random, each call answered by the class and by the model. */
public final class RandomRunsTest {
    private static final int RUNS = Integer.getInteger("runs", 1500);
    /** What would spoil a run, or makes the model slow, if it came as often as the rest. */
    private static final List<String> RARE = Arrays.asList("oneWay", "drawn", "restore", "alleys", "undo", "end",
        "feed", "lane", "fault", "image");
    private static int wrong = 0;
    private static final long[] CALLS = new long[Face.NAMES.length];
    private static final long[] TOLD = new long[Face.NAMES.length];

    private final Random random;
    private final Texts texts;
    private final ChairAlley real = new ChairAlley();
    private final Model model = new Model();
    private final List<String> log = new ArrayList<>();
    private final int seed;
    private boolean failed;

    private RandomRunsTest(int seed) {
        this.seed = seed;
        random = new Random(seed);
        texts = new Texts(random);
    }

    private long call(String name, int... arguments) {
        int method = Face.method(name);
        long due = Face.call(model, method, arguments);
        long got;
        try {
            got = Face.call(real, method, arguments);
        } catch (RuntimeException e) {
            got = Long.MAX_VALUE;
            System.out.println(e);
        }
        CALLS[method]++;
        TOLD[method] += due > 0 || name.equals("lent") && due < 0 && due > -1000 ? 1 : 0;
        log.add(name + Arrays.toString(arguments) + " " + due);
        if (got != due && !failed) {
            failed = true;
            wrong++;
            if (wrong < 4) {
                System.out.println("run " + seed + ": " + name + Arrays.toString(arguments) + " answered " + got
                    + ", due is " + due);
                log.forEach(System.out::println);
            }
        }
        return due;
    }

    private void write(String text) {
        byte[] b = new byte[(text.length() + 19) / 20 * 20];
        for (int i = 0; i < text.length(); i++) {
            b[i] = (byte) text.charAt(i);
        }
        log.add("  text: " + text);
        for (int i = 0; i < b.length; i += 20) {
            int[] v = new int[5];
            for (int k = 0; k < 20; k++) {
                v[k / 4] = v[k / 4] << 8 | b[i + k] & 255;
            }
            call("feed", v);
        }
        call("end", Math.min(text.length(), 940));
    }

    private void text(String name, String text, int most) {
        String t = text;
        if (random.nextInt(4) == 0) {
            t = texts.spoil(t);
        }
        if (random.nextInt(12) == 0) {
            t = texts.stretch(t, most - 5 + random.nextInt(15));
        }
        write(t);
        call(name);
        call("fault");
    }

    private int small() {
        return random.nextInt(20) == 0 ? random.nextInt() : random.nextInt(11) - 1;
    }

    private int argument(String name, int i) {
        switch (name) {
            case "on": return random.nextInt(30) == 0 ? 95 + random.nextInt(8) : random.nextInt(4);
            case "way":
            case "lane":
            case "cell":
                if (i == 0 || name.equals("way")) {
                    return random.nextInt(20) == 0 ? small() : 10 * random.nextInt(6) + random.nextInt(10);
                }
                return random.nextInt(6) - 1;
            case "torches":
                return i == 2 ? 1 + random.nextInt(random.nextInt(5) == 0 ? 22 : 4) : i == 3 ? random.nextInt(5) - 1
                    : random.nextInt(4);
            case "odds": return i == 0 ? random.nextInt(random.nextInt(4) == 0 ? 42 : 5) : random.nextInt();
            case "drawn": return random.nextInt();
            case "invited": return random.nextInt(random.nextInt(4) == 0 ? 32 : 6);
            case "met": return i == 0 ? random.nextInt(random.nextInt(3) == 0 ? 64 : 6) : random.nextInt(7) - 1;
            case "end": return random.nextInt(25) - 1;
            case "judge": return random.nextInt(10) == 0 ? small() : random.nextInt(2);
            case "image":
            case "restore": return random.nextInt(10) == 0 ? small() : random.nextInt(2);
            case "said": return random.nextInt(6) - 1;
            case "step": return random.nextInt(12) - 1;
            case "feed": return random.nextInt();
            default: return random.nextInt(20) == 0 ? small() : random.nextInt(5);
        }
    }

    private void anyCall() {
        int method = random.nextInt(Face.NAMES.length);
        String name = Face.NAMES[method];
        if (RARE.contains(name) && random.nextInt(4) != 0) {
            name = "on";
            method = Face.method(name);
        }
        int[] arguments = new int[Face.ARGUMENTS[method]];
        for (int i = 0; i < arguments.length; i++) {
            arguments[i] = argument(name, i);
        }
        switch (name) {
            case "alleys":
                text("alleys", texts.alleys(), 900);
                return;
            case "plan":
                text("plan", texts.plan(), 400);
                return;
            case "sentence":
                text("sentence", texts.sentence(), 200);
                call("said", -1);
                return;
            default:
                break;
        }
        call(name, arguments);
    }

    private void everything() {
        for (int c = 0; c < 8; c++) {
            for (int what = 0; what < 10; what++) {
                call("chair", c, what);
            }
        }
        for (int what = 0; what < 6; what++) {
            call("now", what);
        }
        for (int what = 0; what < 9; what++) {
            call("count", what);
        }
        for (int k = 0; k < 8; k++) {
            call("order", k);
            call("next", k);
        }
    }

    private void run() {
        int calls = 0;
        if (random.nextInt(8) != 0) {
            text("alleys", texts.alleys(), 900);
        }
        while (calls < 60 && !failed) {
            anyCall();
            calls++;
            if (calls % 20 == 0) {
                everything();
            }
        }
    }

    public static void main(String[] args) {
        int first = Integer.getInteger("first", 0);
        for (int seed = first; seed < first + RUNS; seed++) {
            new RandomRunsTest(seed).run();
        }
        if (Boolean.getBoolean("stats")) {
            for (int i = 0; i < CALLS.length; i++) {
                System.out.println(Face.NAMES[i] + ": " + CALLS[i] + " calls, " + TOLD[i] + " answers above 0");
            }
        }
        System.out.println(RUNS + " runs, " + wrong + " of them wrong");
        if (wrong != 0) {
            System.exit(1);
        }
    }
}
