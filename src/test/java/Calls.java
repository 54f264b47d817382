import java.util.ArrayList;
import java.util.Arrays;
import java.util.List;
import java.util.Random;

/**
 * Calls at random, texts among them, as many as an object may be used for. Each is a row, the method's number and then
 * its arguments, so that the same calls can be played on several objects.
 */
final class Calls {
    static final int MOST = 512;
    /** What would spoil a run, or makes the model slow, if it came as often as the rest. */
    private static final List<String> RARE = Arrays.asList("oneWay", "drawn", "restore", "alleys", "undo", "end",
        "feed", "lane", "fault", "image");

    final List<int[]> rows = new ArrayList<>();
    private final Random random;
    private final Texts texts;

    Calls(int seed) {
        random = new Random(seed);
        texts = new Texts(random);
    }

    static int[] row(String name, int... arguments) {
        int[] row = new int[arguments.length + 1];
        row[0] = Face.method(name);
        System.arraycopy(arguments, 0, row, 1, arguments.length);
        return row;
    }

    static String told(int[] row) {
        return Face.NAMES[row[0]] + Arrays.toString(Arrays.copyOfRange(row, 1, row.length));
    }

    /** The feeds and the end that a text comes by. */
    static List<int[]> writing(String text) {
        List<int[]> rows = new ArrayList<>();
        for (int at = 0; at < text.length(); at += 20) {
            int[] fives = new int[5];
            for (int i = 0; i < 20; i++) {
                fives[i / 4] = fives[i / 4] << 8 | (at + i < text.length() ? text.charAt(at + i) & 255 : 0);
            }
            rows.add(row("feed", fives));
        }
        rows.add(row("end", Math.min(text.length(), 940)));
        return rows;
    }

    boolean isFull() {
        return rows.size() >= MOST;
    }

    void add(String name, int... arguments) {
        if (!isFull()) {
            rows.add(row(name, arguments));
        }
    }

    void write(String text) {
        for (int[] row : writing(text)) {
            if (!isFull()) {
                rows.add(row);
            }
        }
    }

    void alleys() {
        text("alleys", texts.alleys(), 900);
    }

    /** ALLEYS without a FAULT, with nothing ahead of them on the tape. */
    void goodAlleys() {
        add("end", 0);
        write(texts.alleys());
        add("alleys");
    }

    private void text(String name, String text, int most) {
        String t = text;
        if (random.nextInt(4) == 0) {
            t = texts.spoil(t);
        }
        if (random.nextInt(12) == 0) {
            t = texts.stretch(t, most - 5 + random.nextInt(15));
        }
        write(t);
        add(name);
        add("fault");
    }

    private int small() {
        return random.nextInt(20) == 0 ? random.nextInt() : random.nextInt(11) - 1;
    }

    private int argument(String name, int i) {
        switch (name) {
            case "on": return random.nextInt(30) == 0 ? 95 + random.nextInt(8) : random.nextInt(4);
            case "way":
            case "lane":
            case "cell":
                if (i == 0 || name.equals("way")) {
                    return random.nextInt(20) == 0 ? small() : 10 * random.nextInt(6) + random.nextInt(10);
                }
                return random.nextInt(6) - 1;
            case "torches":
                return i == 2 ? 1 + random.nextInt(random.nextInt(5) == 0 ? 22 : 4) : i == 3 ? random.nextInt(5) - 1
                    : random.nextInt(4);
            case "odds": return i == 0 ? random.nextInt(random.nextInt(4) == 0 ? 42 : 5) : random.nextInt();
            case "drawn": return random.nextInt();
            case "invited": return random.nextInt(random.nextInt(4) == 0 ? 32 : 6);
            case "met": return i == 0 ? random.nextInt(random.nextInt(3) == 0 ? 64 : 6) : random.nextInt(7) - 1;
            case "end": return random.nextInt(25) - 1;
            case "judge": return random.nextInt(10) == 0 ? small() : random.nextInt(2);
            case "image":
            case "restore": return random.nextInt(10) == 0 ? small() : random.nextInt(2);
            case "said": return random.nextInt(6) - 1;
            case "step": return random.nextInt(12) - 1;
            case "feed": return random.nextInt();
            default: return random.nextInt(20) == 0 ? small() : random.nextInt(5);
        }
    }

    void addAny() {
        String name = Face.NAMES[random.nextInt(Face.NAMES.length)];
        if (RARE.contains(name) && random.nextInt(4) != 0) {
            name = "on";
        }
        switch (name) {
            case "alleys":
                text("alleys", texts.alleys(), 900);
                return;
            case "plan":
                text("plan", texts.plan(), 400);
                return;
            case "sentence":
                text("sentence", texts.sentence(), 200);
                add("said", -1);
                return;
            default:
                addCall(name);
                break;
        }
    }

    /** One that changes what is so, if what is so allows it. */
    void addAct() {
        String[] acts = {"on", "on", "on", "on", "lane", "judge", "undo", "image", "untied", "restore", "drawn"};
        String name = acts[random.nextInt(acts.length - random.nextInt(3))];
        if (name.equals("judge") && random.nextInt(3) != 0) {
            text("plan", texts.plan(), 400);
        }
        addCall(name);
    }

    void addCall(String name) {
        int[] arguments = new int[Face.ARGUMENTS[Face.method(name)]];
        for (int i = 0; i < arguments.length; i++) {
            arguments[i] = argument(name, i);
        }
        add(name, arguments);
    }

    /** New ALLEYS, and what is asked of them while their CHAIRS are on their ways. */
    void addCounsel() {
        goodAlleys();
        int minutes = 1 + random.nextInt(5);
        for (int i = 0; i < minutes; i++) {
            add("on", 1 + random.nextInt(2));
            for (int c = 0; c < 3; c++) {
                add("lent", c, random.nextInt(4));
                add("torches", c, random.nextInt(4), 1 + random.nextInt(4), random.nextInt(3) - 1);
                add("voted", c);
                add("when", c);
            }
            for (String name : new String[] {"untied", "step", "step", "last", "latest", "invited", "met"}) {
                addCall(name);
            }
            addCall(random.nextInt(12) == 0 ? "oneWay" : "met");
        }
    }

    void addEverything() {
        for (int c = 0; c < 8; c++) {
            for (int what = 0; what < 10; what++) {
                add("chair", c, what);
            }
        }
        for (int what = 0; what < 6; what++) {
            add("now", what);
        }
        for (int what = 0; what < 9; what++) {
            add("count", what);
        }
        for (int k = 0; k < 8; k++) {
            add("order", k);
            add("next", k);
        }
    }
}
