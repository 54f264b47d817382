import java.util.Random;

/** Texts at random: mostly good ones, some with a FAULT in them. */
final class Texts {
    private static final String[] NAMES = {"a", "b", "c", "d", "ka", "abcdefg", "z", "lands"};
    private static final String[] ODD = {";", "<", "=", ">", "(", ")", ".", "A", "9", "12", "1234", "a1", "n", "or",
        "chair", "sick", "abcdefgh", "q", "land", "000", "999", "\t", "\u00e9", "-", "place", "rank", "not", "w"};
    private final Random random;
    private int w;
    private int h;
    private int chairs;

    Texts(Random random) {
        this.random = random;
    }

    private int below(int n) {
        return random.nextInt(n);
    }

    private String x() {
        return " " + below(w);
    }

    private String y() {
        return " " + below(h);
    }

    String name() {
        return NAMES[below(Math.max(chairs, 1))];
    }

    String dir() {
        return "nesw".substring(0, 4).charAt(below(4)) + "";
    }

    String alleys() {
        return below(3) == 0 ? knot() : land();
    }

    /** An alley with niches, through which CHAIRS of several ranks go both ways, so that they meet. */
    private String knot() {
        StringBuilder sb = new StringBuilder();
        w = 4 + below(4);
        h = 3;
        sb.append("land ").append(w).append(" 3;law ").append(below(2) == 0 ? "rank" : "rank come").append(";");
        boolean[] open = new boolean[100];
        for (int x = 0; x < w; x++) {
            open[10 + x] = true;
            for (int y = 0; y < 3; y += 2) {
                open[10 * y + x] = below(4) == 0;
                if (!open[10 * y + x]) {
                    sb.append("wall ").append(x).append(" ").append(y).append(";");
                }
            }
        }
        chairs = 2 + below(3);
        for (int c = 0; c < chairs; c++) {
            int left = below(2);
            int right = 10 + w - 1 - below(2);
            int niche = 10 * below(3) + below(w);
            int from = c % 2 == 0 ? 10 + left : right;
            int to = c % 2 == 0 ? right : 10 + left;
            from = open[niche] && below(3) == 0 ? niche : from;
            sb.append("chair ").append(NAMES[c]).append(" ").append(from % 10).append(" ").append(from / 10)
                .append(" ").append(below(4)).append(" ").append(below(3)).append(" ").append(to % 10).append(" ")
                .append(to / 10).append(";");
            if (below(2) == 0) {
                sb.append("start ").append(NAMES[c]).append(" ").append(below(6)).append(";");
            }
        }
        String[] sorts = {"wide", "wide", "stairs"};
        String sort = sorts[below(3)];
        sb.append(sort).append(" ").append(1 + below(w - 2)).append(" 1;");
        return sb.toString();
    }

    private String land() {
        StringBuilder sb = new StringBuilder();
        boolean narrow = below(2) == 0;
        w = narrow ? 2 + below(5) : 2 + below(9);
        h = narrow ? 2 : 2 + below(5);
        sb.append("land ").append(w).append(" ").append(h).append(";");
        chairs = 1 + below(below(4) == 0 ? 8 : 4);
        boolean wallsFirst = below(4) != 0;
        StringBuilder walls = new StringBuilder();
        boolean[] told = new boolean[100];
        int wallCount = below(w * h / 2 + 1);
        for (int i = 0; i < wallCount; i++) {
            int at = narrow ? 10 + below(w) : 10 * below(h) + below(w);
            if (!told[at]) {
                told[at] = true;
                walls.append("wall ").append(at % 10).append(" ").append(at / 10).append(";");
            }
        }
        if (wallsFirst) {
            sb.append(walls);
        }
        String lastFrom = x() + y();
        String lastTo = x() + y();
        for (int c = 0; c < chairs; c++) {
            String from = c % 2 == 0 || below(4) == 0 ? x() + y() : lastTo;
            String to = c % 2 == 0 || below(4) == 0 ? x() + y() : lastFrom;
            for (int i = 0; i < 20 && wallsFirst && isWall(told, from); i++) {
                from = x() + y();
            }
            for (int i = 0; i < 20 && wallsFirst && isWall(told, to); i++) {
                to = x() + y();
            }
            sb.append("chair ").append(NAMES[c]).append(from).append(" ").append(below(3)).append(" ")
                .append(below(3)).append(to).append(";");
            lastFrom = from;
            lastTo = to;
            if (below(3) == 0) {
                sb.append("start ").append(NAMES[c]).append(" ").append(below(below(4) == 0 ? 100 : 6)).append(";");
            }
            if (below(6) == 0) {
                sb.append("sick ").append(NAMES[c]).append(";");
            }
        }
        if (!wallsFirst) {
            sb.append(walls);
        }
        extras(sb);
        return sb.toString();
    }

    private void extras(StringBuilder sb) {
        boolean[] lanes = new boolean[100];
        int count = below(4);
        for (int i = 0; i < count; i++) {
            int at = 10 * below(h) + below(w);
            if (!lanes[at]) {
                lanes[at] = true;
                sb.append("lane ").append(at % 10).append(" ").append(at / 10).append(" ").append(dir()).append(";");
            }
        }
        for (String sort : new String[] {"stairs", "wide"}) {
            boolean[] told = new boolean[100];
            count = below(5);
            for (int i = 0; i < count; i++) {
                int at = 10 * below(h) + below(w);
                if (!told[at]) {
                    told[at] = true;
                    sb.append(sort).append(" ").append(at % 10).append(" ").append(at / 10).append(";");
                }
            }
        }
        if (below(5) != 0) {
            String[] ways = {"rank", "load", "come"};
            int first = below(3);
            sb.append("law ").append(ways[first]);
            if (below(2) == 0) {
                sb.append(" ").append(ways[(first + 1 + below(2)) % 3]);
            }
            sb.append(";");
        }
    }

    private static boolean isWall(boolean[] told, String cell) {
        String[] parts = cell.trim().split(" ");
        return told[10 * Integer.parseInt(parts[1]) + Integer.parseInt(parts[0])];
    }

    String plan() {
        StringBuilder sb = new StringBuilder();
        int n = below(6) == 0 ? below(45) : below(6);
        for (int i = 0; i < n; i++) {
            sb.append(name()).append(" ").append(dir()).append(below(3) == 0 ? " ;\n" : ";");
        }
        return sb.toString();
    }

    String sentence() {
        return cond(below(8) == 0 ? 8 : 2);
    }

    private String cond(int depth) {
        StringBuilder sb = new StringBuilder(one(depth));
        while (below(3) == 0) {
            sb.append(below(2) == 0 ? " or " : " and ").append(one(depth));
        }
        return sb.toString();
    }

    private String one(int depth) {
        switch (below(depth > 0 ? 9 : 5)) {
            case 0: return "there";
            case 1: return "sick";
            case 2: return "ahead " + name();
            case 5:
            case 6: return "not " + one(depth - 1);
            case 7:
            case 8: return "(" + cond(depth - 1) + ")";
            default:
                return new String[] {"rank", "load", "come", "backs", "waits", "place"}[below(6)]
                    + new String[] {"<", "=", ">", " < "}[below(4)] + below(below(4) == 0 ? 40 : 4);
        }
    }

    /** Some bytes or TOKENS of a text are changed. */
    String spoil(String text) {
        String s = text;
        int n = 1 + below(2);
        for (int i = 0; i < n; i++) {
            int at = below(s.length() + 1);
            String odd = ODD[below(ODD.length)];
            switch (below(5)) {
                case 0: s = s.substring(0, at) + odd + s.substring(at); break;
                case 1: s = s.substring(0, at) + " " + odd + " " + s.substring(at); break;
                case 2: s = s.substring(0, at); break;
                case 3: s = at < s.length() ? s.substring(0, at) + odd + s.substring(at + 1) : s + odd; break;
                default: s = s + s.substring(at); break;
            }
        }
        return s;
    }

    /** Blanks and lines at random places, so that the most bytes are come to. */
    String stretch(String text, int length) {
        StringBuilder sb = new StringBuilder(text);
        while (sb.length() < length) {
            int at = sb.indexOf(";", below(sb.length() + 1));
            sb.insert(at < 0 ? sb.length() : at, below(2) == 0 ? " " : "\n");
        }
        return sb.toString();
    }
}
