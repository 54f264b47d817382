import java.util.ArrayList;
import java.util.Arrays;
import java.util.HashMap;
import java.util.HashSet;
import java.util.List;
import java.util.Map;
import java.util.NoSuchElementException;
import java.util.Set;
import java.util.TreeMap;
import java.util.TreeSet;

/** The document's words once more, as plainly and slowly as can be, for the class to be held against. */
final class Model {
    static final int NONE = -1;
    static final Set<String> WORDS = new HashSet<>(Arrays.asList("land", "wall", "stairs", "wide", "lane", "chair",
            "start", "sick", "law", "rank", "load", "come", "n", "e", "s", "w", "or", "and", "not", "there", "ahead",
            "backs", "waits", "place"));
    static final List<String> DIRS = Arrays.asList("n", "e", "s", "w");

    static final class Fault extends RuntimeException {
        private static final long serialVersionUID = 1L;
        final int kind;
        final int place;

        Fault(int kind, int place) {
            super("", null, false, false);
            this.kind = kind;
            this.place = place;
        }
    }

    static final class Token {
        int place;
        String text;
        boolean good;

        boolean isWord() {
            return good && text.matches("[a-z]+");
        }

        boolean isNumber() {
            return good && text.matches("[0-9]+");
        }

        boolean is(String wanted) {
            return good && text.equals(wanted);
        }
    }

    static final class Chair {
        String name;
        int setsOut;
        int bound;
        int rank;
        int load;
        Integer start;
        boolean sick;
    }

    static final class Alleys {
        int w;
        int h;
        final Map<String, Set<Integer>> marks = new HashMap<>();
        final Map<Integer, Integer> lanes = new TreeMap<>();
        final List<Chair> chairs = new ArrayList<>();
        List<String> law;

        Alleys() {
            for (String sort : Arrays.asList("wall", "stairs", "wide")) {
                marks.put(sort, new TreeSet<>());
            }
        }

        boolean isCell(int at) {
            return at >= 0 && at % 10 < w && at / 10 < h;
        }

        boolean wall(int at) {
            return marks.get("wall").contains(at);
        }

        int chair(String name) {
            for (int i = 0; i < chairs.size(); i++) {
                if (chairs.get(i).name.equals(name)) {
                    return i;
                }
            }
            return NONE;
        }
    }

    static final class Mover {
        int at = NONE;
        int from = NONE;
        int steps;
        int pushed;
        int waited;
        int there = NONE;
        int start;
        int rank;
        int stairsIn = -100;
        int waitsTill;

        Mover copy() {
            Mover m = new Mover();
            m.at = at;
            m.from = from;
            m.steps = steps;
            m.pushed = pushed;
            m.waited = waited;
            m.there = there;
            m.start = start;
            m.rank = rank;
            m.stairsIn = stairsIn;
            m.waitsTill = waitsTill;
            return m;
        }
    }

    static final class Now {
        int minute;
        Map<Integer, Integer> lanes = new TreeMap<>();
        List<Mover> movers = new ArrayList<>();
        List<int[]> meetings = new ArrayList<>();

        Now copy() {
            Now n = new Now();
            n.minute = minute;
            n.lanes.putAll(lanes);
            for (Mover m : movers) {
                n.movers.add(m.copy());
            }
            n.meetings.addAll(meetings);
            return n;
        }
    }

    interface Cond {
        boolean of(int c);
    }

    static final class Kept {
        Alleys alleys;
        Now now;
        List<int[]> plan;
        String sentence;
    }

    private final List<Integer> tape = new ArrayList<>();
    private Alleys alleys = new Alleys();
    private Now now = new Now();
    private List<int[]> plan = new ArrayList<>();
    private String sentence;
    private int fault;
    private final List<Now> past = new ArrayList<>();
    private final Kept[] kept = new Kept[2];
    private List<Integer> untiedSteps = new ArrayList<>();
    private int[] judged;

    // ---- texts

    private List<Token> tokens;
    private int token;
    private Alleys reading;
    private int onesRead;

    private static boolean isRun(int b) {
        return b >= 'a' && b <= 'z' || b >= '0' && b <= '9';
    }

    private static List<Token> split(List<Integer> bytes, int most) {
        List<Token> all = new ArrayList<>();
        int i = 0;
        while (i < bytes.size() && i < most) {
            int b = bytes.get(i);
            if (b == 32 || b == 10) {
                i++;
                continue;
            }
            Token t = new Token();
            t.place = i;
            StringBuilder sb = new StringBuilder();
            if (isRun(b)) {
                while (i < bytes.size() && isRun(bytes.get(i))) {
                    sb.append((char) (int) bytes.get(i++));
                }
            } else {
                sb.append((char) b);
                i++;
            }
            t.text = sb.toString();
            t.good = t.text.matches("[a-z]{1,7}|[0-9]{1,3}|[;<=>()]");
            all.add(t);
        }
        Token end = new Token();
        end.place = Math.min(bytes.size(), most);
        end.text = bytes.size() > most ? "too long" : "";
        all.add(end);
        return all;
    }

    private Token look() {
        return tokens.get(token);
    }

    private boolean atEnd() {
        return token == tokens.size() - 1 && look().text.isEmpty();
    }

    private Token take() {
        return tokens.get(token++);
    }

    private static Fault at(Token t, int kind) {
        return new Fault(kind, t.place);
    }

    private void sign(String s) {
        if (!look().is(s)) {
            throw at(look(), 1);
        }
        take();
    }

    private int number(int lo, int hi) {
        Token t = look();
        if (!t.isNumber()) {
            throw at(t, 1);
        }
        int v = Integer.parseInt(t.text);
        if (v < lo || v > hi) {
            throw at(t, 2);
        }
        take();
        return v;
    }

    private int dir() {
        Token t = look();
        if (!t.good || !DIRS.contains(t.text)) {
            throw at(t, 1);
        }
        take();
        return DIRS.indexOf(t.text);
    }

    private String name() {
        Token t = look();
        if (!t.isWord() || WORDS.contains(t.text)) {
            throw at(t, 1);
        }
        return t.text;
    }

    private int toldChair() {
        int c = reading.chair(name());
        if (c == NONE) {
            throw at(look(), 3);
        }
        return c;
    }

    /** The CELL; the TOKEN of its Y is the one just taken. */
    private int cell() {
        int x = number(0, reading.w - 1);
        int y = number(0, reading.h - 1);
        return 10 * y + x;
    }

    private Token lastTaken() {
        return tokens.get(token - 1);
    }

    private void line() {
        Token head = look();
        String word = head.isWord() ? head.text : "";
        switch (word) {
            case "land":
                if (reading.w > 0) {
                    throw at(head, 3);
                }
                take();
                int w = number(2, 10);
                reading.h = number(2, 10);
                reading.w = w;
                break;
            case "wall":
            case "stairs":
            case "wide":
                if (reading.marks.get(word).size() == (word.equals("wall") ? 40 : 12)) {
                    throw at(head, 4);
                }
                take();
                if (!reading.marks.get(word).add(cell())) {
                    throw at(lastTaken(), 3);
                }
                break;
            case "lane":
                if (reading.lanes.size() == 20) {
                    throw at(head, 4);
                }
                take();
                int at = cell();
                if (reading.lanes.containsKey(at)) {
                    throw at(lastTaken(), 3);
                }
                reading.lanes.put(at, dir());
                break;
            case "chair":
                chairLine(head);
                break;
            case "start":
                take();
                Chair s = reading.chairs.get(toldChair());
                if (s.start != null) {
                    throw at(look(), 3);
                }
                take();
                s.start = number(0, 99);
                break;
            case "sick":
                take();
                Chair k = reading.chairs.get(toldChair());
                if (k.sick) {
                    throw at(look(), 3);
                }
                take();
                k.sick = true;
                break;
            case "law":
                lawLine(head);
                break;
            default:
                throw at(head, 1);
        }
        sign(";");
    }

    private void chairLine(Token head) {
        if (reading.chairs.size() == 8) {
            throw at(head, 4);
        }
        take();
        Chair c = new Chair();
        c.name = name();
        if (reading.chair(c.name) != NONE) {
            throw at(look(), 3);
        }
        take();
        c.setsOut = cell();
        if (reading.wall(c.setsOut)) {
            throw at(lastTaken(), 5);
        }
        c.rank = number(0, 9);
        c.load = number(0, 9);
        c.bound = cell();
        if (reading.wall(c.bound)) {
            throw at(lastTaken(), 5);
        }
        reading.chairs.add(c);
    }

    private void lawLine(Token head) {
        if (reading.law != null) {
            throw at(head, 3);
        }
        take();
        reading.law = new ArrayList<>();
        do {
            Token t = look();
            if (!t.good || !Arrays.asList("rank", "load", "come").contains(t.text)) {
                throw at(t, 1);
            }
            if (reading.law.contains(t.text)) {
                throw at(t, 3);
            }
            reading.law.add(t.text);
            take();
        } while (!look().is(";"));
    }

    private void open(int most) {
        tokens = split(tape, most);
        token = 0;
        tape.clear();
        fault = 0;
        reading = alleys;
    }

    int alleys() {
        open(900);
        reading = new Alleys();
        int lines = 0;
        try {
            while (!atEnd()) {
                line();
                lines++;
            }
        } catch (Fault f) {
            fault = f.kind;
            return -1 - f.place;
        }
        alleys = reading;
        now = new Now();
        now.lanes.putAll(alleys.lanes);
        for (Chair c : alleys.chairs) {
            Mover m = new Mover();
            m.start = c.start == null ? 0 : c.start;
            m.rank = c.rank;
            now.movers.add(m);
        }
        plan = new ArrayList<>();
        sentence = null;
        past.clear();
        return lines;
    }

    int plan() {
        open(400);
        List<int[]> steps = new ArrayList<>();
        try {
            while (!atEnd()) {
                int c = toldChair();
                if (steps.size() == 40) {
                    throw at(look(), 4);
                }
                take();
                steps.add(new int[] {c, dir()});
                sign(";");
            }
        } catch (Fault f) {
            fault = f.kind;
            return -1 - f.place;
        }
        plan = steps;
        return plan.size();
    }

    int sentence() {
        StringBuilder text = new StringBuilder();
        for (int b : tape) {
            text.append((char) b);
        }
        open(200);
        onesRead = 0;
        try {
            cond(0);
            if (!atEnd()) {
                throw at(look(), 1);
            }
        } catch (Fault f) {
            fault = f.kind;
            return -1 - f.place;
        }
        sentence = text.toString();
        return onesRead;
    }

    private Cond cond(int outer) {
        Cond a = all(outer);
        while (look().is("or")) {
            take();
            Cond left = a;
            Cond right = all(outer);
            a = c -> left.of(c) | right.of(c);
        }
        return a;
    }

    private Cond all(int outer) {
        Cond a = one(outer);
        while (look().is("and")) {
            take();
            Cond left = a;
            Cond right = one(outer);
            a = c -> left.of(c) & right.of(c);
        }
        return a;
    }

    private Cond one(int outer) {
        Token t = look();
        if (!t.good || !Arrays.asList("not", "(", "there", "sick", "ahead", "rank", "load", "come", "backs", "waits",
                "place").contains(t.text)) {
            throw at(t, 1);
        }
        if (onesRead == 20 || outer == 8) {
            throw at(t, 4);
        }
        onesRead++;
        take();
        switch (t.text) {
            case "not":
                Cond inner = one(outer + 1);
                return c -> !inner.of(c);
            case "(":
                Cond within = cond(outer + 1);
                sign(")");
                return within;
            case "there":
                return c -> now.movers.get(c).there != NONE;
            case "sick":
                return c -> alleys.chairs.get(c).sick;
            case "ahead":
                int d = toldChair();
                take();
                return c -> ahead(now, c, d);
            default:
                break;
        }
        Token sign = look();
        if (!sign.good || !Arrays.asList("<", "=", ">").contains(sign.text)) {
            throw at(sign, 1);
        }
        take();
        int number = number(0, 999);
        return c -> {
            int v = value(c, t.text);
            return sign.is("<") ? v < number : sign.is("=") ? v == number : v > number;
        };
    }

    private int value(int c, String field) {
        Mover m = now.movers.get(c);
        switch (field) {
            case "rank": return m.rank;
            case "load": return alleys.chairs.get(c).load;
            case "come": return m.steps;
            case "backs": return m.pushed;
            case "waits": return m.waited;
            default: return c;
        }
    }

    int said(int k) {
        if (sentence == null) {
            return NONE;
        }
        List<Integer> bytes = new ArrayList<>();
        for (char ch : sentence.toCharArray()) {
            bytes.add((int) ch);
        }
        tokens = split(bytes, 200);
        token = 0;
        reading = alleys;
        onesRead = 0;
        Cond cond = cond(0);
        List<Integer> of = new ArrayList<>();
        for (int c = 0; c < alleys.chairs.size(); c++) {
            if (cond.of(c)) {
                of.add(c);
            }
        }
        return k == NONE ? of.size() : k >= 0 && k < of.size() ? of.get(k) : NONE;
    }

    // ---- steps, ways, minutes

    private int beside(int at, int dir) {
        int x = at % 10 + (dir == 1 ? 1 : dir == 3 ? -1 : 0);
        int y = at / 10 + (dir == 2 ? 1 : dir == 0 ? -1 : 0);
        return x < 0 || y < 0 || x >= alleys.w || y >= alleys.h ? NONE : 10 * y + x;
    }

    private int stepFrom(Now n, int at, int dir) {
        Integer lane = n.lanes.get(at);
        int to = beside(at, dir);
        return lane != null && lane != dir || to == NONE || alleys.wall(to) ? NONE : to;
    }

    /** Forwards, CELL by CELL. */
    private int wayOf(Now n, int from, int to) {
        if (alleys.wall(from) || alleys.wall(to)) {
            return NONE;
        }
        Set<Integer> reached = new TreeSet<>();
        reached.add(from);
        for (int steps = 0; steps <= 100; steps++) {
            if (reached.contains(to)) {
                return steps;
            }
            Set<Integer> more = new TreeSet<>(reached);
            for (int at : reached) {
                for (int dir = 0; dir < 4; dir++) {
                    int t = stepFrom(n, at, dir);
                    if (t != NONE) {
                        more.add(t);
                    }
                }
            }
            reached = more;
        }
        return NONE;
    }

    private final Map<String, Integer> nextCells = new HashMap<>();

    private int nextOf(Now n, int c) {
        int at = n.movers.get(c).at;
        int bound = alleys.chairs.get(c).bound;
        String key = at + " " + bound + " " + alleys.w + " " + alleys.h + n.lanes + alleys.marks.get("wall");
        Integer known = nextCells.get(key);
        if (known == null) {
            known = NONE;
            int far = wayOf(n, at, bound);
            for (int dir = 3; dir >= 0 && far > 0; dir--) {
                int t = stepFrom(n, at, dir);
                if (t != NONE && wayOf(n, t, bound) == far - 1) {
                    known = t;
                }
            }
            nextCells.put(key, known);
        }
        return known;
    }

    private boolean ahead(Now n, int c, int d) {
        Chair a = alleys.chairs.get(c);
        Chair b = alleys.chairs.get(d);
        if (a.sick != b.sick) {
            return a.sick;
        }
        if (alleys.law != null) {
            for (String way : alleys.law) {
                int x = way.equals("rank") ? n.movers.get(c).rank : way.equals("load") ? a.load : n.movers.get(c).steps;
                int y = way.equals("rank") ? n.movers.get(d).rank : way.equals("load") ? b.load : n.movers.get(d).steps;
                if (x != y) {
                    return x > y;
                }
            }
        }
        return c < d;
    }

    private List<Integer> orderOf(Now n) {
        List<Integer> all = new ArrayList<>();
        for (int c = 0; c < n.movers.size(); c++) {
            all.add(c);
        }
        all.sort((a, b) -> a.equals(b) ? 0 : ahead(n, a, b) ? -1 : 1);
        return all;
    }

    private List<Integer> on(Now n, int cell) {
        List<Integer> there = new ArrayList<>();
        for (int c = 0; c < n.movers.size(); c++) {
            if (n.movers.get(c).at == cell) {
                there.add(c);
            }
        }
        return there;
    }

    private boolean room(Now n, int cell) {
        return on(n, cell).size() < (alleys.marks.get("wide").contains(cell) ? 2 : 1);
    }

    private void gone(Now n, int c) {
        n.movers.get(c).there = n.minute;
        n.movers.get(c).at = NONE;
    }

    private void minute(Now n) {
        for (int c = 0; c < n.movers.size(); c++) {
            Mover m = n.movers.get(c);
            Chair chair = alleys.chairs.get(c);
            if (m.start > n.minute || m.at != NONE || m.there != NONE) {
                continue;
            }
            if (chair.setsOut == chair.bound) {
                gone(n, c);
            } else if (room(n, chair.setsOut)) {
                m.at = chair.setsOut;
                m.from = NONE;
            }
        }
        Set<Integer> pushed = new HashSet<>();
        List<Integer> order = orderOf(n);
        for (int c : order) {
            Mover m = n.movers.get(c);
            if (m.at == NONE || m.there != NONE || pushed.contains(c)) {
                continue;
            }
            if (n.minute < m.waitsTill || m.stairsIn == n.minute - 1) {
                continue;
            }
            int to = nextOf(n, c);
            if (to == NONE) {
                m.waited++;
                continue;
            }
            if (!room(n, to)) {
                List<Integer> others = on(n, to);
                int d = others.get(0);
                if (others.size() > 1 && order.indexOf(d) < order.indexOf(others.get(1))) {
                    d = others.get(1);
                }
                Mover o = n.movers.get(d);
                if (order.indexOf(c) > order.indexOf(d) || pushed.contains(d) || o.from == NONE || !room(n, o.from)) {
                    m.waited++;
                    if (nextOf(n, d) == m.at) {
                        n.meetings.add(new int[] {n.minute, c, d, to, 0});
                    }
                    continue;
                }
                n.meetings.add(new int[] {n.minute, c, d, to, 1});
                pushed.add(d);
                o.pushed++;
                o.at = o.from;
                o.from = NONE;
                if (alleys.marks.get("stairs").contains(o.at)) {
                    o.stairsIn = n.minute;
                }
            }
            m.from = m.at;
            m.at = to;
            m.steps++;
            if (alleys.marks.get("stairs").contains(to)) {
                m.stairsIn = n.minute;
            }
        }
        for (int c = 0; c < n.movers.size(); c++) {
            if (n.movers.get(c).at != NONE && n.movers.get(c).at == alleys.chairs.get(c).bound) {
                gone(n, c);
            }
        }
        n.minute++;
    }

    private Now till(Now from, int minute) {
        Now n = from.copy();
        while (n.minute < minute) {
            minute(n);
        }
        return n;
    }

    private Now beginning() {
        Now n = new Now();
        n.lanes.putAll(now.lanes);
        for (Mover old : now.movers) {
            Mover m = new Mover();
            m.start = old.start;
            m.rank = old.rank;
            n.movers.add(m);
        }
        return n;
    }

    private static int when(Now n, int c) {
        return n.movers.get(c).there == NONE ? 500 : n.movers.get(c).there;
    }

    private void keep() {
        past.add(now.copy());
        if (past.size() > 8) {
            past.remove(0);
        }
    }

    // ---- the face

    int feed(int a, int b, int c, int d, int e) {
        if (tape.size() > 920) {
            return NONE;
        }
        for (int v : new int[] {a, b, c, d, e}) {
            tape.add(v >>> 24);
            tape.add(v >>> 16 & 255);
            tape.add(v >>> 8 & 255);
            tape.add(v & 255);
        }
        return tape.size();
    }

    boolean end(int n) {
        if (n < 0 || n > tape.size()) {
            return false;
        }
        while (tape.size() > n) {
            tape.remove(tape.size() - 1);
        }
        return true;
    }

    int fault() {
        return fault;
    }

    int chair(int c, int what) {
        if (c < 0 || c >= now.movers.size() || what < 0 || what > 9) {
            throw new NoSuchElementException();
        }
        Mover m = now.movers.get(c);
        Chair k = alleys.chairs.get(c);
        return new int[] {m.at, k.rank, k.load, k.bound, m.start, k.sick ? 1 : 0, m.steps, m.pushed, m.waited,
            m.there}[what];
    }

    int cell(int at, int what) {
        if (!alleys.isCell(at) || what < 0 || what > 4) {
            throw new NoSuchElementException();
        }
        if (what < 3) {
            return alleys.marks.get(Arrays.asList("wall", "stairs", "wide").get(what)).contains(at) ? 1 : 0;
        }
        return what == 3 ? now.lanes.getOrDefault(at, NONE) : on(now, at).size();
    }

    int way(int from, int to) {
        return alleys.isCell(from) && alleys.isCell(to) ? wayOf(now, from, to) : NONE;
    }

    int next(int c) {
        return c < 0 || c >= now.movers.size() || now.movers.get(c).at == NONE ? NONE : nextOf(now, c);
    }

    int order(int k) {
        return k < 0 || k >= now.movers.size() ? NONE : orderOf(now).get(k);
    }

    int on(int n) {
        if (n < 1 || n > 100) {
            return NONE;
        }
        int went = Math.min(n, 500 - now.minute);
        if (went > 0) {
            keep();
            now = till(now, now.minute + went);
        }
        return went;
    }

    int now(int what) {
        int out = 0;
        int there = 0;
        int waits = 0;
        int pushes = 0;
        for (Mover m : now.movers) {
            out += m.at != NONE ? 1 : 0;
            there += m.there != NONE ? 1 : 0;
            waits += m.waited;
        }
        for (int[] m : now.meetings) {
            pushes += m[4];
        }
        return what < 0 || what > 5 ? NONE
            : new int[] {now.minute, out, there, now.meetings.size(), pushes, waits}[what];
    }

    int met(int k, int what) {
        return k < 0 || k >= 60 || k >= now.meetings.size() || what < 0 || what > 4 ? NONE : now.meetings.get(k)[what];
    }

    int undo() {
        if (past.isEmpty()) {
            return NONE;
        }
        now = past.remove(past.size() - 1);
        return past.size();
    }

    boolean lane(int at, int dir) {
        if (!alleys.isCell(at) || alleys.wall(at) || dir < -1 || dir > 3 || now.lanes.getOrDefault(at, NONE) == dir) {
            return false;
        }
        keep();
        if (dir == NONE) {
            now.lanes.remove(at);
        } else {
            now.lanes.put(at, dir);
        }
        return true;
    }

    /** Level by level, with the first of all shortest rows of STEPS to each knot. */
    int untied() {
        List<Integer> out = new ArrayList<>();
        for (int c = 0; c < now.movers.size(); c++) {
            if (now.movers.get(c).at != NONE) {
                out.add(c);
            }
        }
        if (out.size() > 3 || alleys.w * alleys.h > 36) {
            return -2;
        }
        List<Integer> first = new ArrayList<>();
        List<Integer> goal = new ArrayList<>();
        for (int c : out) {
            first.add(now.movers.get(c).at);
            goal.add(NONE);
        }
        Set<List<Integer>> known = new HashSet<>();
        known.add(first);
        Map<List<Integer>, String> level = new HashMap<>();
        level.put(first, "");
        while (!level.isEmpty() && !level.containsKey(goal)) {
            Map<List<Integer>, String> more = new HashMap<>();
            for (Map.Entry<List<Integer>, String> entry : level.entrySet()) {
                List<Integer> at = entry.getKey();
                for (int i = 0; i < out.size(); i++) {
                    for (int dir = 0; dir < 4 && at.get(i) != NONE; dir++) {
                        int to = stepFrom(now, at.get(i), dir);
                        int most = alleys.marks.get("wide").contains(to) ? 2 : 1;
                        int there = 0;
                        for (int other : at) {
                            there += other == to ? 1 : 0;
                        }
                        if (to == NONE || there >= most) {
                            continue;
                        }
                        List<Integer> then = new ArrayList<>(at);
                        then.set(i, to == alleys.chairs.get(out.get(i)).bound ? NONE : to);
                        String path = entry.getValue() + (char) (4 * out.get(i) + dir);
                        if (!known.contains(then)) {
                            String old = more.get(then);
                            if (old == null || path.compareTo(old) < 0) {
                                more.put(then, path);
                            }
                        }
                    }
                }
            }
            known.addAll(more.keySet());
            level = more;
        }
        if (level.isEmpty()) {
            return NONE;
        }
        untiedSteps = new ArrayList<>();
        for (char ch : level.get(goal).toCharArray()) {
            untiedSteps.add((int) ch);
        }
        return untiedSteps.size();
    }

    int step(int i) {
        return i < 0 || i >= untiedSteps.size() ? NONE : untiedSteps.get(i);
    }

    private boolean nobodyToCome() {
        for (Mover m : now.movers) {
            if (m.there == NONE) {
                return false;
            }
        }
        return true;
    }

    private int[] lastAndWaits(Now from) {
        Now n = till(from, 500);
        int[] both = {0, 0};
        for (int c = 0; c < n.movers.size(); c++) {
            both[0] = Math.max(both[0], when(n, c));
            both[1] += n.movers.get(c).waited;
        }
        return both;
    }

    int oneWay() {
        if (nobodyToCome()) {
            return NONE;
        }
        int[] best = lastAndWaits(now);
        int found = NONE;
        for (int at = 0; at < 100; at++) {
            if (!alleys.isCell(at) || alleys.wall(at) || now.lanes.containsKey(at)) {
                continue;
            }
            for (int dir = 0; dir < 4; dir++) {
                Now n = now.copy();
                n.lanes.put(at, dir);
                int[] got = lastAndWaits(n);
                if (got[0] < best[0] || got[0] == best[0] && got[1] < best[1]) {
                    best = got;
                    found = 10 * at + dir;
                }
            }
        }
        return found;
    }

    int last() {
        return nobodyToCome() ? NONE : lastAndWaits(now)[0];
    }

    private boolean meets(Now from) {
        return !till(from, 100).meetings.isEmpty();
    }

    int invited(int n) {
        int chairs = now.movers.size();
        if (n < 1 || n > 30 || chairs == 0 || chairs > 4) {
            return NONE;
        }
        for (int row = 0; row < Math.pow(4, chairs); row++) {
            Now b = beginning();
            int rest = row;
            for (int c = chairs - 1; c >= 0; c--) {
                b.movers.get(c).start = rest % 4 * n;
                rest /= 4;
            }
            if (!meets(b)) {
                return row;
            }
        }
        return NONE;
    }

    private static void remove(Now n, int c) {
        n.movers.get(c).at = NONE;
        n.movers.get(c).there = 12345;
    }

    int began() {
        int bits = 0;
        for (int c = 0; c < now.movers.size(); c++) {
            Now b = beginning();
            remove(b, c);
            bits += meets(b) ? 0 : 1 << c;
        }
        return bits;
    }

    int lent(int c, int d) {
        int chairs = now.movers.size();
        if (c < 0 || d < 0 || c >= chairs || d >= chairs || now.movers.get(c).there != NONE) {
            return -1001;
        }
        Now n = now.copy();
        n.movers.get(c).rank = now.movers.get(d).rank;
        return when(till(now, 500), c) - when(till(n, 500), c);
    }

    int torches(int c, int d, int n, int k) {
        int chairs = now.movers.size();
        if (c < 0 || d < 0 || c >= chairs || d >= chairs || c == d || n < 1 || n > 20 || k < -1) {
            return NONE;
        }
        if (now.movers.get(c).at == NONE || now.movers.get(d).at == NONE) {
            return NONE;
        }
        int[][][] times = new int[2][2][];
        for (int a = 0; a < 2; a++) {
            for (int b = 0; b < 2; b++) {
                Now t = now.copy();
                t.movers.get(c).waitsTill = now.minute + a * n;
                t.movers.get(d).waitsTill = now.minute + b * n;
                t = till(t, 500);
                times[a][b] = new int[] {when(t, c), when(t, d)};
            }
        }
        List<Integer> rests = new ArrayList<>();
        for (int a = 0; a < 2; a++) {
            for (int b = 0; b < 2; b++) {
                if (times[1 - a][b][0] >= times[a][b][0] && times[a][1 - b][1] >= times[a][b][1]) {
                    rests.add(2 * a + b);
                }
            }
        }
        return k == NONE ? rests.size() : k < rests.size() ? rests.get(k) : NONE;
    }

    int voted(int c) {
        if (c < 0 || c >= now.movers.size()) {
            return NONE;
        }
        Now n = now.copy();
        remove(n, c);
        Now with = till(now, 500);
        Now without = till(n, 500);
        int yes = 0;
        int no = 0;
        for (int x = 0; x < now.movers.size(); x++) {
            if (now.movers.get(x).at == NONE) {
                continue;
            }
            if (x != c && when(without, x) < when(with, x)) {
                yes++;
            } else {
                no++;
            }
        }
        return yes > no ? 1 : 0;
    }

    int when(int c) {
        return c < 0 || c >= now.movers.size() || now.movers.get(c).there != NONE ? NONE : when(till(now, 500), c);
    }

    int latest() {
        Now n = till(now, 500);
        int best = NONE;
        for (int c = n.movers.size() - 1; c >= 0; c--) {
            if (best == NONE || n.movers.get(c).waited >= n.movers.get(best).waited) {
                best = c;
            }
        }
        return best;
    }

    private static void draw(Now n, int seed) {
        int x = seed;
        for (Mover m : n.movers) {
            x = x * 1103515245 + 12345;
            m.start = (x >>> 8) % 20;
        }
    }

    boolean drawn(int seed) {
        if (now.movers.isEmpty()) {
            return false;
        }
        keep();
        now = beginning();
        draw(now, seed);
        return true;
    }

    int odds(int n, int seed) {
        if (n < 1 || n > 40 || now.movers.isEmpty()) {
            return NONE;
        }
        int of = 0;
        for (int i = 0; i < n; i++) {
            Now b = beginning();
            draw(b, seed + i);
            of += meets(b) ? 1 : 0;
        }
        return of;
    }

    int judge(int lives) {
        if (lives != 0 && lives != 1) {
            return -2;
        }
        Now n = now.copy();
        int wrong = NONE;
        int why = 0;
        int done = 0;
        for (int[] s : plan) {
            Mover m = n.movers.get(s[0]);
            int to = m.at == NONE ? NONE : stepFrom(n, m.at, s[1]);
            why = m.at == NONE ? 1 : to == NONE ? 2 : !room(n, to) ? 3 : 0;
            if (why != 0) {
                wrong = done;
                break;
            }
            m.from = m.at;
            m.at = to;
            m.steps++;
            if (to == alleys.chairs.get(s[0]).bound) {
                gone(n, s[0]);
            }
            done++;
        }
        int there = 0;
        for (Mover m : n.movers) {
            there += m.there != NONE ? 1 : 0;
        }
        judged = new int[] {why, done, there};
        if (lives == 1 && done > 0) {
            keep();
            now = n;
        }
        return wrong;
    }

    int judged(int what) {
        return judged == null || what < 0 || what > 2 ? NONE : judged[what];
    }

    boolean image(int k) {
        if (k != 0 && k != 1) {
            return false;
        }
        kept[k] = new Kept();
        kept[k].alleys = alleys;
        kept[k].now = now.copy();
        kept[k].plan = plan;
        kept[k].sentence = sentence;
        return true;
    }

    boolean restore(int k) {
        if (k != 0 && k != 1 || kept[k] == null) {
            return false;
        }
        alleys = kept[k].alleys;
        now = kept[k].now.copy();
        plan = kept[k].plan;
        sentence = kept[k].sentence;
        past.clear();
        return true;
    }

    int count(int what) {
        return what < 0 || what > 8 ? NONE : new int[] {alleys.w, alleys.h, alleys.chairs.size(),
            alleys.marks.get("wall").size(), alleys.marks.get("stairs").size(), alleys.marks.get("wide").size(),
            now.lanes.size(), plan.size(), tape.size()}[what];
    }
}
