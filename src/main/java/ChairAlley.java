import java.util.NoSuchElementException;

/** The sedan war: alleys a chair wide, and the chairs that meet in them. */
public final class ChairAlley {
    public static final int NONE = -1;

    private static final int CHAIRS = 8;
    private static final int CELLS = 100;
    private static final int DIRS = 4;
    private static final int WAYS = 3;
    private static final int MINUTES = 500;
    private static final int EARLY_MINUTES = 100;
    private static final int IMAGES = 2;
    private static final int REFUSED = -2;
    private static final int NOT_LENT = NONE - 1000;

    private static final int TAPE_BYTES = 940;
    private static final int ALLEYS_BYTES = 900;
    private static final int PLAN_BYTES = 400;
    private static final int SENTENCE_BYTES = 200;

    private static final int CANNOT_COME = 1;
    private static final int WRONG_NUMBER = 2;
    private static final int WRONG_NAME = 3;
    private static final int TOO_MANY = 4;
    private static final int ON_A_WALL = 5;

    /** The WORDS that no CHAIR can bear, each with a blank behind it; the constants below are their places here. */
    private static final String WORDS = "land wall stairs wide lane chair start sick law rank load come n e s w or and not there ahead backs waits place ";
    private static final int LAND = 0;
    private static final int WALL = 1;
    private static final int STAIRS = 2;
    private static final int WIDE = 3;
    private static final int LANE = 4;
    private static final int CHAIR = 5;
    private static final int START = 6;
    private static final int SICK = 7;
    private static final int LAW = 8;
    private static final int RANK = 9;
    private static final int LOAD = 10;
    private static final int COME = 11;
    private static final int NORTH = 12;
    private static final int WEST = 15;
    private static final int OR = 16;
    private static final int AND = 17;
    private static final int NOT = 18;
    private static final int THERE = 19;
    private static final int AHEAD = 20;
    private static final int BACKS = 21;
    private static final int WAITS = 22;
    private static final int PLACE = 23;

    private final Reader reader = new Reader();
    private final World world = new World();
    /** Where texts are read to: they may have a FAULT, and then the world stays. */
    private final World spare = new World();
    private final Walk walk = new Walk(world.land);
    private final History history = new History();
    private final Untier untier = new Untier();
    private final World[] images = new World[IMAGES];
    private int judgedWhy = NONE;
    private int judgedSteps = NONE;
    private int judgedThere = NONE;

    public ChairAlley() {
    }

    public int feed(int a, int b, int c, int d, int e) {
        if (reader.length + 20 > TAPE_BYTES) {
            return NONE;
        }
        reader.append(a);
        reader.append(b);
        reader.append(c);
        reader.append(d);
        reader.append(e);
        return reader.length;
    }

    public boolean end(int n) {
        if (n < 0 || n > reader.length) {
            return false;
        }
        reader.length = n;
        return true;
    }

    public int alleys() {
        reader.open(ALLEYS_BYTES);
        int lines = spare.land.read(reader);
        reader.length = 0;
        if (reader.fault != 0) {
            return -1 - reader.place;
        }
        world.land.copyFrom(spare.land);
        world.state.beginAll(world.land);
        world.plan.size = 0;
        world.sentence.size = 0;
        history.kept = 0;
        return lines;
    }

    public int fault() {
        return reader.fault;
    }

    public int chair(int c, int what) throws NoSuchElementException {
        if (!world.land.isChair(c)) {
            throw new NoSuchElementException();
        }
        State s = world.state;
        switch (what) {
            case 0: return s.at[c];
            case 1: return s.rank[c];
            case 2: return world.land.load[c];
            case 3: return world.land.bound[c];
            case 4: return s.start[c];
            case 5: return world.land.sick[c] ? 1 : 0;
            case 6: return s.came[c];
            case 7: return s.backs[c];
            case 8: return s.waits[c];
            case 9: return s.there[c];
            default: throw new NoSuchElementException();
        }
    }

    public int cell(int at, int what) throws NoSuchElementException {
        Land land = world.land;
        if (!land.isCell(at)) {
            throw new NoSuchElementException();
        }
        switch (what) {
            case 0: return land.isMarked(at, WALL) ? 1 : 0;
            case 1: return land.isMarked(at, STAIRS) ? 1 : 0;
            case 2: return land.isMarked(at, WIDE) ? 1 : 0;
            case 3: return world.state.lanes[at];
            case 4: return world.state.chairsOn(at);
            default: throw new NoSuchElementException();
        }
    }

    public int way(int from, int to) {
        if (!world.land.isCell(from) || !world.land.isCell(to)) {
            return NONE;
        }
        walk.ways.measure(world.state.lanes, to, 0);
        return walk.ways.far[from];
    }

    public int next(int c) {
        if (!isOut(c)) {
            return NONE;
        }
        walk.ways.measure(world.state.lanes, world.land.bound[c], c);
        return walk.ways.firstCell(c, world.state.at[c]);
    }

    public int order(int k) {
        if (!world.land.isChair(k)) {
            return NONE;
        }
        walk.takeOver(world.state);
        walk.sortByPrecedence();
        return walk.sorted[k];
    }

    public int on(int n) {
        if (n < 1 || n > 100) {
            return NONE;
        }
        walk.takeOver(world.state);
        walk.measureWays();
        for (int i = 0; i < n && walk.s.minute < MINUTES; i++) {
            walk.goOneMinute();
        }
        int went = walk.s.minute - world.state.minute;
        if (went > 0) {
            liveWhatWasTried();
        }
        return went;
    }

    public int now(int what) {
        State s = world.state;
        int chairs = world.land.chairs;
        switch (what) {
            case 0: return s.minute;
            case 1: return s.chairsOut(chairs);
            case 2: return s.chairsThere(chairs);
            case 3: return s.meetings;
            case 4: return State.sum(s.backs, chairs);
            case 5: return State.sum(s.waits, chairs);
            default: return NONE;
        }
    }

    public int met(int k, int what) {
        if (k < 0 || k >= State.MET_KEPT || k >= world.state.meetings) {
            return NONE;
        }
        if (what < 0 || what >= State.MET_PARTS) {
            return NONE;
        }
        return world.state.met[k * State.MET_PARTS + what];
    }

    public int undo() {
        return history.takeBack(world.state);
    }

    public boolean lane(int at, int dir) {
        if (!world.land.isCell(at) || world.land.isMarked(at, WALL)) {
            return false;
        }
        if (dir < NONE || dir >= DIRS || world.state.lanes[at] == dir) {
            return false;
        }
        history.keep(world.state);
        world.state.lanes[at] = dir;
        return true;
    }

    public int untied() {
        return untier.solve(world.land, world.state);
    }

    public int step(int i) {
        if (i < 0 || i >= untier.found || i >= untier.steps.length) {
            return NONE;
        }
        return untier.steps[i];
    }

    public int oneWay() {
        if (isNobodyToCome()) {
            return NONE;
        }
        walk.takeOver(world.state);
        walk.measureWays();
        walk.goTill(MINUTES);
        int bestLast = walk.lastThere();
        int bestWaits = walk.waitsOfAll();
        int best = NONE;
        for (int at = 0; at < CELLS; at++) {
            for (int dir = 0; dir < DIRS && mayBecomeLane(at); dir++) {
                walk.takeOver(world.state);
                walk.s.lanes[at] = dir;
                walk.measureWays();
                // What takes longer than the best so far is not better, however it ends.
                walk.goTill(bestLast + 1);
                int last = walk.lastThere();
                int waits = walk.waitsOfAll();
                if (last < bestLast || last == bestLast && waits < bestWaits) {
                    bestLast = last;
                    bestWaits = waits;
                    best = 10 * at + dir;
                }
            }
        }
        return best;
    }

    public int last() {
        if (isNobodyToCome()) {
            return NONE;
        }
        walk.takeOver(world.state);
        walk.measureWays();
        walk.goTill(MINUTES);
        return walk.lastThere();
    }

    public int invited(int n) {
        int chairs = world.land.chairs;
        if (n < 1 || n > 30 || chairs < 1 || chairs > 4) {
            return NONE;
        }
        walk.takeOverAnew(world.state);
        walk.measureWays();
        int rows = 1 << 2 * chairs;
        for (int row = 0; row < rows; row++) {
            walk.takeOverAnew(world.state);
            for (int c = 0; c < chairs; c++) {
                walk.s.start[c] = n * (row >> 2 * (chairs - 1 - c) & 3);
            }
            if (!walk.hasEarlyMeeting()) {
                return row;
            }
        }
        return NONE;
    }

    public int began() {
        walk.takeOverAnew(world.state);
        walk.measureWays();
        int bits = 0;
        for (int c = 0; c < world.land.chairs && c < CHAIRS; c++) {
            walk.takeOverAnew(world.state);
            walk.s.takeAway(c);
            if (!walk.hasEarlyMeeting()) {
                bits |= 1 << c;
            }
        }
        return bits;
    }

    public int lent(int c, int d) {
        if (!isToCome(c) || !world.land.isChair(d)) {
            return NOT_LENT;
        }
        walk.takeOver(world.state);
        walk.measureWays();
        walk.goTill(MINUTES);
        int own = walk.whenThere(c);
        walk.takeOver(world.state);
        walk.s.rank[c] = world.state.rank[d];
        walk.goTill(MINUTES);
        return own - walk.whenThere(c);
    }

    public int torches(int c, int d, int n, int k) {
        if (!isOut(c) || !isOut(d) || c == d) {
            return NONE;
        }
        if (n < 1 || n > 20 || k < NONE) {
            return NONE;
        }
        int[] first = new int[4];
        int[] second = new int[4];
        walk.takeOver(world.state);
        walk.measureWays();
        for (int row = 0; row < 4; row++) {
            walk.takeOver(world.state);
            walk.s.held[c] = (row & 2) != 0 ? world.state.minute + n : 0;
            walk.s.held[d] = (row & 1) != 0 ? world.state.minute + n : 0;
            walk.goTill(MINUTES);
            first[row] = walk.whenThere(c);
            second[row] = walk.whenThere(d);
        }
        int rests = 0;
        for (int row = 0; row < 4; row++) {
            if (first[row ^ 2] >= first[row] && second[row ^ 1] >= second[row]) {
                if (rests == k) {
                    return row;
                }
                rests++;
            }
        }
        return k == NONE ? rests : NONE;
    }

    public int voted(int c) {
        if (!world.land.isChair(c)) {
            return NONE;
        }
        int[] with = new int[CHAIRS];
        walk.takeOver(world.state);
        walk.measureWays();
        walk.goTill(MINUTES);
        for (int other = 0; other < CHAIRS; other++) {
            with[other] = walk.whenThere(other);
        }
        walk.takeOver(world.state);
        walk.s.takeAway(c);
        walk.goTill(MINUTES);
        int votes = 0;
        for (int other = 0; other < CHAIRS; other++) {
            if (isOut(other)) {
                boolean isFor = other != c && walk.whenThere(other) < with[other];
                votes += isFor ? 1 : -1;
            }
        }
        return votes > 0 ? 1 : 0;
    }

    public int when(int c) {
        if (!isToCome(c)) {
            return NONE;
        }
        walk.takeOver(world.state);
        walk.measureWays();
        walk.goTill(MINUTES);
        return walk.whenThere(c);
    }

    public int latest() {
        walk.takeOver(world.state);
        walk.measureWays();
        walk.goTill(MINUTES);
        int most = NONE;
        for (int c = 0; c < world.land.chairs && c < CHAIRS; c++) {
            if (most == NONE || walk.s.waits[c] > walk.s.waits[most]) {
                most = c;
            }
        }
        return most;
    }

    public boolean drawn(int seed) {
        if (world.land.chairs == 0) {
            return false;
        }
        history.keep(world.state);
        world.state.drawStarts(seed);
        world.state.beginMinutes();
        return true;
    }

    public int odds(int n, int seed) {
        if (n < 1 || n > 40 || world.land.chairs == 0) {
            return NONE;
        }
        walk.takeOverAnew(world.state);
        walk.measureWays();
        int meeting = 0;
        for (int i = 0; i < n; i++) {
            walk.takeOverAnew(world.state);
            walk.s.drawStarts(seed + i);
            if (walk.hasEarlyMeeting()) {
                meeting++;
            }
        }
        return meeting;
    }

    public int plan() {
        reader.open(PLAN_BYTES);
        spare.plan.read(reader, world.land);
        reader.length = 0;
        if (reader.fault != 0) {
            return -1 - reader.place;
        }
        world.plan.copyFrom(spare.plan);
        return world.plan.size;
    }

    public int judge(int lives) {
        if (lives != 0 && lives != 1) {
            return REFUSED;
        }
        walk.takeOver(world.state);
        int why = 0;
        int done = 0;
        for (int i = 0; i < world.plan.size && i < Plan.MOST && why == 0; i++) {
            why = walk.doPlanned(world.plan.steps[i]);
            done += why == 0 ? 1 : 0;
        }
        judgedWhy = why;
        judgedSteps = done;
        judgedThere = walk.s.chairsThere(world.land.chairs);
        if (lives == 1 && done > 0) {
            liveWhatWasTried();
        }
        return why == 0 ? NONE : done;
    }

    public int judged(int what) {
        switch (what) {
            case 0: return judgedWhy;
            case 1: return judgedSteps;
            case 2: return judgedThere;
            default: return NONE;
        }
    }

    public int sentence() {
        reader.open(SENTENCE_BYTES);
        int ones = spare.sentence.read(reader, world.land);
        reader.length = 0;
        if (reader.fault != 0) {
            return -1 - reader.place;
        }
        world.sentence.copyFrom(spare.sentence);
        return ones;
    }

    public int said(int k) {
        if (world.sentence.size == 0 || k < NONE) {
            return NONE;
        }
        int found = 0;
        for (int c = 0; c < world.land.chairs && c < CHAIRS; c++) {
            if (world.sentence.isTrueOf(world.land, world.state, c)) {
                if (found == k) {
                    return c;
                }
                found++;
            }
        }
        return k == NONE ? found : NONE;
    }

    public boolean image(int k) {
        if (k < 0 || k >= IMAGES) {
            return false;
        }
        if (images[k] == null) {
            images[k] = new World();
        }
        images[k].copyFrom(world);
        return true;
    }

    public boolean restore(int k) {
        if (k < 0 || k >= IMAGES || images[k] == null) {
            return false;
        }
        world.copyFrom(images[k]);
        history.kept = 0;
        return true;
    }

    public int count(int what) {
        switch (what) {
            case 0: return world.land.width;
            case 1: return world.land.height;
            case 2: return world.land.chairs;
            case 3: return world.land.told[WALL];
            case 4: return world.land.told[STAIRS];
            case 5: return world.land.told[WIDE];
            case 6: return world.state.lanesNow();
            case 7: return world.plan.size;
            case 8: return reader.length;
            default: return NONE;
        }
    }

    private void liveWhatWasTried() {
        history.keep(world.state);
        world.state.copyFrom(walk.s);
    }

    private boolean isOut(int c) {
        return world.land.isChair(c) && world.state.at[c] != NONE;
    }

    private boolean isToCome(int c) {
        return world.land.isChair(c) && world.state.there[c] == NONE;
    }

    private boolean isNobodyToCome() {
        return world.state.chairsThere(world.land.chairs) == world.land.chairs;
    }

    private boolean mayBecomeLane(int at) {
        return world.land.isCell(at) && !world.land.isMarked(at, WALL) && world.state.lanes[at] == NONE;
    }

    /** The tape, and the TOKEN that is next along it. */
    private static final class Reader {
        static final int END = 0;
        static final int NO_TOKEN = 1;
        static final int WORD = 2;
        static final int NUMBER = 3;
        static final int SIGN = 4;

        final byte[] tape = new byte[TAPE_BYTES];
        int length;
        int most;
        /** Where what is behind the TOKEN begins. */
        int at;
        int start;
        int kind;
        /** Its place in WORDS; NONE: it may be a NAME. */
        int word;
        /** A WORD's letters, five bits each. */
        long name;
        int number;
        int sign;
        int fault;
        int place;

        void append(int four) {
            for (int shift = 24; shift >= 0 && length < tape.length; shift -= 8) {
                tape[length] = (byte) (four >> shift);
                length++;
            }
        }

        void open(int mostBytes) {
            most = mostBytes;
            at = 0;
            fault = 0;
            place = 0;
            advance();
        }

        void advance() {
            int limit = Math.min(length, most);
            while (at < length && at < tape.length && (tape[at] == 32 || tape[at] == 10)) {
                at++;
            }
            start = Math.min(at, limit);
            kind = END;
            word = NONE;
            if (at < limit && at < tape.length) {
                readToken();
            }
            if (kind == WORD) {
                findWord();
            }
        }

        private void readToken() {
            int letters = 0;
            int digits = 0;
            name = 0;
            number = 0;
            for (; at < length && at < tape.length; at++) {
                sign = tape[at];
                if (sign >= 'a' && sign <= 'z') {
                    letters++;
                    name = name * 32 + (sign - 'a' + 1);
                } else if (sign >= '0' && sign <= '9') {
                    digits++;
                    number = number * 10 + (sign - '0');
                } else {
                    break;
                }
            }
            kind = NO_TOKEN;
            if (letters + digits == 0) {
                at++;
                boolean isKnown = sign >= ';' && sign <= '>' || sign == '(' || sign == ')';
                kind = isKnown ? SIGN : NO_TOKEN;
            } else if (digits == 0 && letters <= 7) {
                kind = WORD;
            } else if (letters == 0 && digits <= 3) {
                kind = NUMBER;
            }
        }

        private void findWord() {
            int index = 0;
            long code = 0;
            for (int i = 0; i < WORDS.length() && word == NONE; i++) {
                char letter = WORDS.charAt(i);
                if (letter != ' ') {
                    code = code * 32 + (letter - 'a' + 1);
                } else {
                    word = code == name ? index : NONE;
                    index++;
                    code = 0;
                }
            }
        }

        /** Is false, so that a reading can end with it. */
        boolean fail(int faultKind) {
            fault = faultKind;
            place = start;
            return false;
        }

        /** The end itself is a FAULT, if there are more bytes than may be. */
        boolean endsWell() {
            return kind == END && length <= most || fail(CANNOT_COME);
        }

        boolean isWord(int first, int last) {
            return kind == WORD && word >= first && word <= last;
        }

        boolean isSign(char wanted) {
            return kind == SIGN && sign == wanted;
        }

        boolean isNumber(int least, int greatest) {
            if (kind != NUMBER) {
                return fail(CANNOT_COME);
            }
            return number >= least && number <= greatest || fail(WRONG_NUMBER);
        }

        boolean isName() {
            return kind == WORD && word == NONE || fail(CANNOT_COME);
        }

        boolean passSign(char wanted) {
            if (!isSign(wanted)) {
                return fail(CANNOT_COME);
            }
            advance();
            return true;
        }

        /** NONE behind a FAULT. */
        int passNumber(int least, int greatest) {
            if (!isNumber(least, greatest)) {
                return NONE;
            }
            int passed = number;
            advance();
            return passed;
        }

        /** NONE behind a FAULT. */
        int passDir() {
            if (!isWord(NORTH, WEST)) {
                fail(CANNOT_COME);
                return NONE;
            }
            int dir = word - NORTH;
            advance();
            return dir;
        }
    }

    /** What the text of the ALLEYS tells. */
    private static final class Land {
        int width;
        int height;
        /** Bits 1 << WALL, STAIRS, WIDE. */
        final int[] marks = new int[CELLS];
        final int[] lanes = new int[CELLS];
        /** How many of a sort, by the sort's WORD. */
        final int[] told = new int[LANE + 1];
        int chairs;
        final long[] names = new long[CHAIRS];
        final int[] setsOut = new int[CHAIRS];
        final int[] bound = new int[CHAIRS];
        final int[] rank = new int[CHAIRS];
        final int[] load = new int[CHAIRS];
        /** NONE: not told. */
        final int[] start = new int[CHAIRS];
        final boolean[] sick = new boolean[CHAIRS];
        final int[] law = new int[WAYS];
        int laws;

        void clear() {
            width = 0;
            height = 0;
            chairs = 0;
            laws = 0;
            for (int at = 0; at < CELLS; at++) {
                marks[at] = 0;
                lanes[at] = NONE;
            }
            for (int sort = 0; sort < told.length; sort++) {
                told[sort] = 0;
            }
            for (int c = 0; c < CHAIRS; c++) {
                start[c] = NONE;
                sick[c] = false;
            }
        }

        void copyFrom(Land other) {
            width = other.width;
            height = other.height;
            chairs = other.chairs;
            laws = other.laws;
            System.arraycopy(other.marks, 0, marks, 0, CELLS);
            System.arraycopy(other.lanes, 0, lanes, 0, CELLS);
            System.arraycopy(other.told, 0, told, 0, LANE + 1);
            System.arraycopy(other.law, 0, law, 0, WAYS);
            for (int c = 0; c < CHAIRS; c++) {
                names[c] = other.names[c];
                setsOut[c] = other.setsOut[c];
                bound[c] = other.bound[c];
                rank[c] = other.rank[c];
                load[c] = other.load[c];
                start[c] = other.start[c];
                sick[c] = other.sick[c];
            }
        }

        boolean isChair(int c) {
            return c >= 0 && c < chairs && c < CHAIRS;
        }

        boolean isCell(int at) {
            return at >= 0 && at < CELLS && at % 10 < width && at / 10 < height;
        }

        boolean isMarked(int at, int sort) {
            return at >= 0 && at < CELLS && (marks[at] >> sort & 1) != 0;
        }

        int chairNamed(long name) {
            for (int c = 0; c < chairs && c < CHAIRS; c++) {
                if (names[c] == name) {
                    return c;
                }
            }
            return NONE;
        }

        int cellBeside(int at, int dir) {
            int x = at % 10;
            int y = at / 10;
            switch (dir) {
                case 0: y--; break;
                case 1: x++; break;
                case 2: y++; break;
                case 3: x--; break;
                default: return NONE;
            }
            return x < 0 || y < 0 || x >= width || y >= height ? NONE : 10 * y + x;
        }

        /** Where a step by a DIR leads; NONE: onto a wall, off the land, against a lane. */
        int target(int[] lanesNow, int at, int dir) {
            if (!isCell(at) || at >= lanesNow.length) {
                return NONE;
            }
            if (lanesNow[at] != NONE && lanesNow[at] != dir) {
                return NONE;
            }
            int to = cellBeside(at, dir);
            return isMarked(to, WALL) ? NONE : to;
        }

        /** How many LINES; what it answers behind a FAULT is of no use. */
        int read(Reader r) {
            clear();
            int lines = 0;
            while (r.kind != Reader.END && lines < TAPE_BYTES) {
                if (!readLine(r) || !r.passSign(';')) {
                    return NONE;
                }
                lines++;
            }
            return r.endsWell() ? lines : NONE;
        }

        private boolean readLine(Reader r) {
            if (r.kind != Reader.WORD) {
                return r.fail(CANNOT_COME);
            }
            switch (r.word) {
                case LAND: return readSize(r);
                case WALL: return readMark(r, WALL, 40);
                case STAIRS: return readMark(r, STAIRS, 12);
                case WIDE: return readMark(r, WIDE, 12);
                case LANE: return readLane(r);
                case CHAIR: return readChair(r);
                case START: return readStart(r);
                case SICK: return readSick(r);
                case LAW: return readLaw(r);
                default: return r.fail(CANNOT_COME);
            }
        }

        private boolean readSize(Reader r) {
            if (width != 0) {
                return r.fail(WRONG_NAME);
            }
            r.advance();
            int w = r.passNumber(2, 10);
            int h = w == NONE ? NONE : r.passNumber(2, 10);
            if (h == NONE) {
                return false;
            }
            width = w;
            height = h;
            return true;
        }

        /** X is passed, but Y only looked at: more may be wrong with it. NONE behind a FAULT. */
        private int readCell(Reader r) {
            int x = r.passNumber(0, width - 1);
            if (x == NONE || !r.isNumber(0, height - 1)) {
                return NONE;
            }
            int at = 10 * r.number + x;
            return isCell(at) ? at : NONE;
        }

        private boolean readMark(Reader r, int sort, int most) {
            if (sort < 0 || sort > LANE || told[sort] >= most) {
                return r.fail(TOO_MANY);
            }
            r.advance();
            int at = readCell(r);
            if (!isCell(at)) {
                return false;
            }
            if (isMarked(at, sort)) {
                return r.fail(WRONG_NAME);
            }
            r.advance();
            marks[at] |= 1 << sort;
            told[sort]++;
            return true;
        }

        private boolean readLane(Reader r) {
            if (told[LANE] >= 20) {
                return r.fail(TOO_MANY);
            }
            r.advance();
            int at = readCell(r);
            if (!isCell(at)) {
                return false;
            }
            if (lanes[at] != NONE) {
                return r.fail(WRONG_NAME);
            }
            r.advance();
            lanes[at] = r.passDir();
            told[LANE]++;
            return lanes[at] != NONE;
        }

        private boolean readChair(Reader r) {
            int c = chairs;
            if (c < 0 || c >= CHAIRS) {
                return r.fail(TOO_MANY);
            }
            r.advance();
            if (!r.isName()) {
                return false;
            }
            if (chairNamed(r.name) != NONE) {
                return r.fail(WRONG_NAME);
            }
            names[c] = r.name;
            r.advance();
            setsOut[c] = readCell(r);
            if (!passOpen(r, setsOut[c])) {
                return false;
            }
            rank[c] = r.passNumber(0, 9);
            load[c] = rank[c] == NONE ? NONE : r.passNumber(0, 9);
            bound[c] = load[c] == NONE ? NONE : readCell(r);
            chairs = c + 1;
            return passOpen(r, bound[c]);
        }

        private boolean passOpen(Reader r, int at) {
            if (at == NONE) {
                return false;
            }
            if (isMarked(at, WALL)) {
                return r.fail(ON_A_WALL);
            }
            r.advance();
            return true;
        }

        /** The CHAIR whose NAME is next, which is not passed. NONE behind a FAULT. */
        int readName(Reader r) {
            if (!r.isName()) {
                return NONE;
            }
            int c = chairNamed(r.name);
            if (c == NONE) {
                r.fail(WRONG_NAME);
            }
            return c;
        }

        private boolean readStart(Reader r) {
            r.advance();
            int c = readName(r);
            if (!isChair(c)) {
                return false;
            }
            if (start[c] != NONE) {
                return r.fail(WRONG_NAME);
            }
            r.advance();
            start[c] = r.passNumber(0, 99);
            return start[c] != NONE;
        }

        private boolean readSick(Reader r) {
            r.advance();
            int c = readName(r);
            if (!isChair(c)) {
                return false;
            }
            if (sick[c]) {
                return r.fail(WRONG_NAME);
            }
            r.advance();
            sick[c] = true;
            return true;
        }

        private boolean readLaw(Reader r) {
            if (laws != 0) {
                return r.fail(WRONG_NAME);
            }
            r.advance();
            // A fourth WAY is one of the three again.
            for (int i = 0; i <= WAYS; i++) {
                if (i > 0 && r.isSign(';')) {
                    return true;
                }
                if (!r.isWord(RANK, COME)) {
                    return r.fail(CANNOT_COME);
                }
                if (i >= WAYS || hasWay(r.word)) {
                    return r.fail(WRONG_NAME);
                }
                law[i] = r.word;
                laws = i + 1;
                r.advance();
            }
            return true;
        }

        private boolean hasWay(int word) {
            for (int i = 0; i < laws && i < WAYS; i++) {
                if (law[i] == word) {
                    return true;
                }
            }
            return false;
        }
    }

    /** All that changes while MINUTES go by, and the lanes and starts of now. */
    private static final class State {
        static final int MET_KEPT = 60;
        static final int MET_PARTS = 5;
        /** A MINUTE that is ahead of none. */
        static final int NEVER = -2;

        int minute;
        final int[] lanes = new int[CELLS];
        final int[] start = new int[CHAIRS];
        final int[] rank = new int[CHAIRS];
        final int[] at = new int[CHAIRS];
        /** The CELL from which it came last; NONE: from nowhere. */
        final int[] from = new int[CHAIRS];
        final int[] came = new int[CHAIRS];
        final int[] backs = new int[CHAIRS];
        final int[] waits = new int[CHAIRS];
        final int[] there = new int[CHAIRS];
        /** The MINUTE in which it came to stairs last. */
        final int[] stairsAt = new int[CHAIRS];
        /** The MINUTE till which it waits by its own will. */
        final int[] held = new int[CHAIRS];
        int meetings;
        final int[] met = new int[MET_KEPT * MET_PARTS];

        void beginAll(Land land) {
            System.arraycopy(land.lanes, 0, lanes, 0, CELLS);
            for (int c = 0; c < CHAIRS; c++) {
                start[c] = Math.max(land.start[c], 0);
                rank[c] = land.rank[c];
            }
            beginMinutes();
        }

        void beginMinutes() {
            minute = 0;
            meetings = 0;
            for (int c = 0; c < CHAIRS; c++) {
                at[c] = NONE;
                from[c] = NONE;
                came[c] = 0;
                backs[c] = 0;
                waits[c] = 0;
                there[c] = NONE;
                stairsAt[c] = NEVER;
                held[c] = 0;
            }
        }

        void copyFrom(State other) {
            minute = other.minute;
            meetings = other.meetings;
            System.arraycopy(other.lanes, 0, lanes, 0, CELLS);
            for (int c = 0; c < CHAIRS; c++) {
                start[c] = other.start[c];
                rank[c] = other.rank[c];
                at[c] = other.at[c];
                from[c] = other.from[c];
                came[c] = other.came[c];
                backs[c] = other.backs[c];
                waits[c] = other.waits[c];
                there[c] = other.there[c];
                stairsAt[c] = other.stairsAt[c];
                held[c] = other.held[c];
            }
            for (int i = 0; i < meetings * MET_PARTS && i < met.length; i++) {
                met[i] = other.met[i];
            }
        }

        void drawStarts(int seed) {
            int x = seed;
            for (int c = 0; c < CHAIRS; c++) {
                x = x * 1103515245 + 12345;
                start[c] = (x >>> 8) % 20;
            }
        }

        /** As if it were THERE, so that it neither comes out nor stands anywhere. */
        void takeAway(int c) {
            if (c >= 0 && c < CHAIRS) {
                at[c] = NONE;
                there[c] = minute;
            }
        }

        void addMeeting(int who, int other, int cell, int pushed) {
            if (meetings >= 0 && meetings < MET_KEPT) {
                int row = meetings * MET_PARTS;
                met[row] = minute;
                met[row + 1] = who;
                met[row + 2] = other;
                met[row + 3] = cell;
                met[row + 4] = pushed;
            }
            meetings++;
        }

        /** The greater, the further ahead; no two CHAIRS have the same. */
        long precedence(Land land, int c) {
            if (c < 0 || c >= CHAIRS) {
                return NONE;
            }
            long key = land.sick[c] ? 1 : 0;
            for (int i = 0; i < WAYS; i++) {
                key = key * 65536 + (i < land.laws ? numberOf(land, land.law[i], c) : 0);
            }
            return key * CHAIRS + (CHAIRS - 1 - c);
        }

        /** What a WORD counts of a CHAIR now; PLACE, which is left, is the CHAIR's own number. */
        int numberOf(Land land, int word, int c) {
            if (c < 0 || c >= CHAIRS) {
                return NONE;
            }
            switch (word) {
                case RANK: return rank[c];
                case LOAD: return land.load[c];
                case COME: return came[c];
                case BACKS: return backs[c];
                case WAITS: return waits[c];
                default: return c;
            }
        }

        int chairsOn(int cell) {
            int count = 0;
            for (int c = 0; c < CHAIRS; c++) {
                count += at[c] == cell ? 1 : 0;
            }
            return count;
        }

        int chairsOut(int chairs) {
            int count = 0;
            for (int c = 0; c < chairs && c < CHAIRS; c++) {
                count += at[c] != NONE ? 1 : 0;
            }
            return count;
        }

        int chairsThere(int chairs) {
            int count = 0;
            for (int c = 0; c < chairs && c < CHAIRS; c++) {
                count += there[c] != NONE ? 1 : 0;
            }
            return count;
        }

        int lanesNow() {
            int count = 0;
            for (int cell = 0; cell < CELLS; cell++) {
                count += lanes[cell] != NONE ? 1 : 0;
            }
            return count;
        }

        static int sum(int[] row, int chairs) {
            int total = 0;
            for (int c = 0; c < chairs && c < row.length; c++) {
                total += row[c];
            }
            return total;
        }
    }

    /** A PLAN: each STEP as 4 times the CHAIR and the DIR. */
    private static final class Plan {
        static final int MOST = 40;

        int size;
        final int[] steps = new int[MOST];

        void copyFrom(Plan other) {
            size = other.size;
            System.arraycopy(other.steps, 0, steps, 0, MOST);
        }

        boolean read(Reader r, Land land) {
            size = 0;
            for (int i = 0; i <= MOST && r.kind != Reader.END; i++) {
                if (!readStep(r, land)) {
                    return false;
                }
            }
            return r.endsWell();
        }

        private boolean readStep(Reader r, Land land) {
            int c = land.readName(r);
            if (c == NONE) {
                return false;
            }
            if (size < 0 || size >= MOST) {
                return r.fail(TOO_MANY);
            }
            r.advance();
            int dir = r.passDir();
            if (dir == NONE || !r.passSign(';')) {
                return false;
            }
            steps[size] = DIRS * c + dir;
            size++;
            return true;
        }
    }

    /** A SENTENCE: its ONES and joints, each behind what it joins or denies. No SENTENCE has no parts. */
    private static final class Sentence {
        static final int MOST_ONES = 20;
        static final int MOST_DEPTH = 8;
        static final int MOST_PARTS = 2 * MOST_ONES;

        int size;
        final int[] words = new int[MOST_PARTS];
        final int[] signs = new int[MOST_PARTS];
        final int[] numbers = new int[MOST_PARTS];
        /** How many ONES were read so far. */
        int ones;

        void copyFrom(Sentence other) {
            size = other.size;
            System.arraycopy(other.words, 0, words, 0, MOST_PARTS);
            System.arraycopy(other.signs, 0, signs, 0, MOST_PARTS);
            System.arraycopy(other.numbers, 0, numbers, 0, MOST_PARTS);
        }

        private void add(int word, int sign, int number) {
            if (size >= 0 && size < MOST_PARTS) {
                words[size] = word;
                signs[size] = sign;
                numbers[size] = number;
                size++;
            }
        }

        /** Answers that wait to be joined are the bits of a stack, the latest one the lowest. */
        boolean isTrueOf(Land land, State state, int c) {
            long stack = 0;
            for (int i = 0; i < size && i < MOST_PARTS; i++) {
                long top = stack & 1;
                long below = stack >> 1 & 1;
                switch (words[i]) {
                    case NOT: stack ^= 1; break;
                    case AND: stack = stack >> 2 << 1 | top & below; break;
                    case OR: stack = stack >> 2 << 1 | top | below; break;
                    default: stack = stack << 1 | (holds(i, land, state, c) ? 1 : 0); break;
                }
            }
            return (stack & 1) != 0;
        }

        private boolean holds(int i, Land land, State state, int c) {
            if (i < 0 || i >= MOST_PARTS || !land.isChair(c)) {
                return false;
            }
            switch (words[i]) {
                case THERE: return state.there[c] != NONE;
                case SICK: return land.sick[c];
                case AHEAD: return state.precedence(land, c) > state.precedence(land, numbers[i]);
                default: break;
            }
            int value = state.numberOf(land, words[i], c);
            switch (signs[i]) {
                case '<': return value < numbers[i];
                case '>': return value > numbers[i];
                default: return value == numbers[i];
            }
        }

        /** How many ONES; what it answers behind a FAULT is of no use. */
        int read(Reader r, Land land) {
            size = 0;
            ones = 0;
            return readCond(r, land, 1) && r.endsWell() ? ones : NONE;
        }

        private boolean readCond(Reader r, Land land, int depth) {
            boolean good = readAll(r, land, depth);
            for (int i = 0; i < MOST_ONES && good && r.isWord(OR, OR); i++) {
                r.advance();
                good = readAll(r, land, depth);
                add(OR, 0, 0);
            }
            return good;
        }

        private boolean readAll(Reader r, Land land, int depth) {
            boolean good = readOne(r, land, depth);
            for (int i = 0; i < MOST_ONES && good && r.isWord(AND, AND); i++) {
                r.advance();
                good = readOne(r, land, depth);
                add(AND, 0, 0);
            }
            return good;
        }

        private boolean readOne(Reader r, Land land, int depth) {
            boolean isBracket = r.isSign('(');
            boolean isWord = r.isWord(NOT, PLACE) || r.isWord(RANK, COME) || r.isWord(SICK, SICK);
            if (!isBracket && !isWord) {
                return r.fail(CANNOT_COME);
            }
            if (ones >= MOST_ONES || depth > MOST_DEPTH) {
                return r.fail(TOO_MANY);
            }
            ones++;
            int word = r.word;
            r.advance();
            if (isBracket) {
                return readCond(r, land, depth + 1) && r.passSign(')');
            }
            if (word == NOT) {
                boolean good = readOne(r, land, depth + 1);
                add(NOT, 0, 0);
                return good;
            }
            return readPlain(r, land, word);
        }

        private boolean readPlain(Reader r, Land land, int word) {
            if (word == THERE || word == SICK) {
                add(word, 0, 0);
                return true;
            }
            if (word == AHEAD) {
                int c = land.readName(r);
                if (c == NONE) {
                    return false;
                }
                r.advance();
                add(word, 0, c);
                return true;
            }
            int sign = r.sign;
            if (!r.isSign('<') && !r.isSign('=') && !r.isSign('>')) {
                return r.fail(CANNOT_COME);
            }
            r.advance();
            int number = r.passNumber(0, 999);
            add(word, sign, number);
            return number != NONE;
        }
    }

    /** All that an image keeps. */
    private static final class World {
        final Land land = new Land();
        final State state = new State();
        final Plan plan = new Plan();
        final Sentence sentence = new Sentence();

        World() {
            land.clear();
            state.beginAll(land);
        }

        void copyFrom(World other) {
            land.copyFrom(other.land);
            state.copyFrom(other.state);
            plan.copyFrom(other.plan);
            sentence.copyFrom(other.sentence);
        }
    }

    /** What was so ahead of each act that can be undone, the latest last. */
    private static final class History {
        static final int MOST = 8;

        final State[] rows = new State[MOST];
        int kept;

        void keep(State state) {
            if (kept >= MOST) {
                forgetFirst();
            }
            if (kept < 0 || kept >= MOST) {
                return;
            }
            if (rows[kept] == null) {
                rows[kept] = new State();
            }
            rows[kept].copyFrom(state);
            kept++;
        }

        private void forgetFirst() {
            State first = rows[0];
            for (int i = 1; i < MOST; i++) {
                rows[i - 1] = rows[i];
            }
            rows[MOST - 1] = first;
            kept = MOST - 1;
        }

        int takeBack(State state) {
            if (kept < 1 || kept > MOST || rows[kept - 1] == null) {
                return NONE;
            }
            kept--;
            state.copyFrom(rows[kept]);
            return kept;
        }
    }

    /** A row for each CHAIR: how far it is from each CELL to where it is bound, and by which DIR first. */
    private static final class Ways {
        final Land land;
        final int[] far = new int[CHAIRS * CELLS];
        final int[] dirs = new int[CHAIRS * CELLS];
        final int[] queue = new int[CELLS];
        int queued;

        Ways(Land land) {
            this.land = land;
        }

        /** From the CELL to which the ways lead outwards. */
        void measure(int[] lanes, int to, int row) {
            if (row < 0 || row >= CHAIRS) {
                return;
            }
            int base = row * CELLS;
            for (int at = 0; at < CELLS; at++) {
                far[base + at] = NONE;
                dirs[base + at] = NONE;
            }
            if (!land.isCell(to) || land.isMarked(to, WALL)) {
                return;
            }
            far[base + to] = 0;
            queue[0] = to;
            queued = 1;
            for (int head = 0; head < queued && head < CELLS; head++) {
                spread(lanes, queue[head], base);
            }
        }

        private void spread(int[] lanes, int to, int base) {
            if (!land.isCell(to) || base < 0 || base > (CHAIRS - 1) * CELLS) {
                return;
            }
            for (int dir = 0; dir < DIRS; dir++) {
                int at = land.cellBeside(to, (dir + 2) % DIRS);
                if (!land.isCell(at) || land.isMarked(at, WALL) || land.target(lanes, at, dir) != to) {
                    continue;
                }
                int i = base + at;
                if (far[i] == NONE && queued < CELLS) {
                    far[i] = far[base + to] + 1;
                    dirs[i] = dir;
                    queue[queued] = at;
                    queued++;
                } else if (far[i] == far[base + to] + 1) {
                    dirs[i] = Math.min(dirs[i], dir);
                }
            }
        }

        int firstCell(int row, int at) {
            if (row < 0 || row >= CHAIRS || at < 0 || at >= CELLS) {
                return NONE;
            }
            int dir = dirs[row * CELLS + at];
            return dir == NONE ? NONE : land.cellBeside(at, dir);
        }
    }

    /** MINUTES and STEPS that are tried, on a state of their own. */
    private static final class Walk {
        final Land land;
        final Ways ways;
        final State s = new State();
        final int[] sorted = new int[CHAIRS];
        /** The place of each CHAIR in that order, which stays for the whole MINUTE. */
        final int[] turn = new int[CHAIRS];
        final long[] keys = new long[CHAIRS];
        final boolean[] pushed = new boolean[CHAIRS];
        /** Nothing changed in the latest MINUTE, and nothing is to change by time alone. */
        boolean still;

        Walk(Land land) {
            this.land = land;
            this.ways = new Ways(land);
        }

        void takeOver(State state) {
            s.copyFrom(state);
        }

        void takeOverAnew(State state) {
            s.copyFrom(state);
            s.beginMinutes();
        }

        /** Must have been called for these lanes ahead of any MINUTE. */
        void measureWays() {
            for (int c = 0; c < land.chairs && c < CHAIRS; c++) {
                if (s.there[c] == NONE) {
                    ways.measure(s.lanes, land.bound[c], c);
                }
            }
        }

        void sortByPrecedence() {
            for (int c = 0; c < land.chairs && c < CHAIRS; c++) {
                long key = s.precedence(land, c);
                int i = c;
                for (; i > 0 && keys[i - 1] < key; i--) {
                    keys[i] = keys[i - 1];
                    sorted[i] = sorted[i - 1];
                }
                keys[i] = key;
                sorted[i] = c;
            }
        }

        void goOneMinute() {
            still = true;
            for (int c = 0; c < land.chairs && c < CHAIRS; c++) {
                pushed[c] = false;
                comeOut(c);
            }
            sortByPrecedence();
            for (int i = 0; i < land.chairs && i < CHAIRS; i++) {
                noteTurn(sorted[i], i);
            }
            for (int i = 0; i < land.chairs && i < CHAIRS; i++) {
                act(sorted[i]);
            }
            for (int c = 0; c < land.chairs && c < CHAIRS; c++) {
                leaveIfThere(c);
            }
            s.minute++;
        }

        private void noteTurn(int c, int i) {
            if (c >= 0 && c < CHAIRS) {
                turn[c] = i;
            }
        }

        private void comeOut(int c) {
            if (c < 0 || c >= CHAIRS || s.at[c] != NONE || s.there[c] != NONE) {
                return;
            }
            if (s.start[c] > s.minute) {
                still = false;
            } else if (land.setsOut[c] == land.bound[c]) {
                // It takes no place on the land, so it needs no ROOM.
                still = false;
                s.there[c] = s.minute;
            } else if (hasRoom(land.setsOut[c])) {
                still = false;
                s.at[c] = land.setsOut[c];
                s.from[c] = NONE;
            }
        }

        private void leaveIfThere(int c) {
            if (c >= 0 && c < CHAIRS && s.at[c] != NONE && s.at[c] == land.bound[c]) {
                s.there[c] = s.minute;
                s.at[c] = NONE;
            }
        }

        private void act(int c) {
            if (c < 0 || c >= CHAIRS || s.at[c] == NONE || pushed[c]) {
                return;
            }
            if (s.minute < s.held[c] || s.stairsAt[c] == s.minute - 1) {
                still = false;
                return;
            }
            int to = ways.firstCell(c, s.at[c]);
            if (to != NONE && hasRoom(to)) {
                stepTo(c, to);
                return;
            }
            int other = to == NONE ? NONE : latestOn(to);
            if (canBePushed(other, c)) {
                s.addMeeting(c, other, to, 1);
                pushBack(other);
                stepTo(c, to);
                return;
            }
            s.waits[c]++;
            if (isBoundFor(other, s.at[c])) {
                s.addMeeting(c, other, to, 0);
            }
        }

        private boolean canBePushed(int other, int by) {
            if (other < 0 || other >= CHAIRS || by < 0 || by >= CHAIRS) {
                return false;
            }
            if (pushed[other] || s.from[other] == NONE) {
                return false;
            }
            return turn[other] > turn[by] && hasRoom(s.from[other]);
        }

        private boolean isBoundFor(int c, int cell) {
            return c >= 0 && c < CHAIRS && ways.firstCell(c, s.at[c]) == cell;
        }

        private void pushBack(int c) {
            if (c < 0 || c >= CHAIRS) {
                return;
            }
            pushed[c] = true;
            s.backs[c]++;
            s.at[c] = s.from[c];
            s.from[c] = NONE;
            noteStairs(c);
        }

        private void stepTo(int c, int to) {
            if (c < 0 || c >= CHAIRS) {
                return;
            }
            still = false;
            s.came[c]++;
            s.from[c] = s.at[c];
            s.at[c] = to;
            noteStairs(c);
        }

        private void noteStairs(int c) {
            if (c >= 0 && c < CHAIRS && land.isMarked(s.at[c], STAIRS)) {
                s.stairsAt[c] = s.minute;
            }
        }

        private boolean hasRoom(int cell) {
            return s.chairsOn(cell) < (land.isMarked(cell, WIDE) ? 2 : 1);
        }

        private int latestOn(int cell) {
            int latest = NONE;
            for (int c = 0; c < land.chairs && c < CHAIRS; c++) {
                if (s.at[c] == cell && (latest == NONE || turn[c] > turn[latest])) {
                    latest = c;
                }
            }
            return latest;
        }

        /** MINUTES below a bound, till all are THERE. MEETINGS may be left out. */
        void goTill(int bound) {
            int end = Math.min(bound, MINUTES);
            for (int i = 0; i < MINUTES && s.minute < end; i++) {
                if (s.chairsThere(land.chairs) == land.chairs) {
                    return;
                }
                goOneMinute();
                if (still) {
                    waitTill(end);
                }
            }
        }

        /** Behind a still MINUTE, in which all that are out waited, each is like it. */
        private void waitTill(int end) {
            for (int c = 0; c < land.chairs && c < CHAIRS; c++) {
                s.waits[c] += s.at[c] == NONE ? 0 : end - s.minute;
            }
            s.minute = end;
        }

        boolean hasEarlyMeeting() {
            still = false;
            for (int i = 0; i < EARLY_MINUTES && s.meetings == 0 && !still; i++) {
                goOneMinute();
            }
            return s.meetings > 0;
        }

        int whenThere(int c) {
            return c < 0 || c >= CHAIRS || s.there[c] == NONE ? MINUTES : s.there[c];
        }

        int lastThere() {
            int last = NONE;
            for (int c = 0; c < land.chairs && c < CHAIRS; c++) {
                last = Math.max(last, whenThere(c));
            }
            return last;
        }

        int waitsOfAll() {
            return State.sum(s.waits, land.chairs);
        }

        /** 0: the STEP of a PLAN is done; else why it is WRONG. */
        int doPlanned(int planned) {
            int c = planned / DIRS;
            if (planned < 0 || !land.isChair(c) || s.at[c] == NONE) {
                return 1;
            }
            int to = land.target(s.lanes, s.at[c], planned % DIRS);
            if (to == NONE) {
                return 2;
            }
            if (!hasRoom(to)) {
                return 3;
            }
            s.came[c]++;
            s.from[c] = s.at[c];
            s.at[c] = to;
            leaveIfThere(c);
            return 0;
        }
    }

    /**
     * The fewest STEPS out of a knot. A knot is a number: the spots of those that move, to the base of the
     * spots there are and one more, that of being gone. Spots are the land's CELLS, counted without gaps.
     */
    private static final class Untier {
        static final int MOST_MOVERS = 3;
        static final int MOST_SPOTS = 36;
        static final int FIRST = 100;

        int width;
        int spots;
        int movers;
        final int[] chairs = new int[MOST_MOVERS];
        final int[] bound = new int[MOST_MOVERS];
        final int[] unit = new int[MOST_MOVERS];
        /** Where the movers are in the knot that is looked at. */
        final int[] spot = new int[MOST_MOVERS];
        final int[] target = new int[MOST_SPOTS * DIRS];
        final int[] room = new int[MOST_SPOTS];
        /** By which STEP a knot was come to first, and 1; 0: it was not. */
        byte[] seen = new byte[0];
        int[] queue = new int[0];
        int queued;
        int[] steps = new int[0];
        int found;

        int solve(Land land, State state) {
            if (land.width * land.height > MOST_SPOTS || state.chairsOut(land.chairs) > MOST_MOVERS) {
                return REFUSED;
            }
            width = land.width;
            spots = land.width * land.height;
            readLand(land, state);
            int knots = listMovers(land, state);
            int first = knotNow(land, state);
            makeRows(knots);
            if (!search(first, knots - 1)) {
                return NONE;
            }
            tellSteps(first, knots - 1);
            return found;
        }

        private int spotOf(int cell) {
            return cell / 10 * width + cell % 10;
        }

        private void readLand(Land land, State state) {
            for (int at = 0; at < CELLS; at++) {
                int i = spotOf(at);
                if (!land.isCell(at) || i >= MOST_SPOTS) {
                    continue;
                }
                room[i] = land.isMarked(at, WIDE) ? 2 : 1;
                for (int dir = 0; dir < DIRS; dir++) {
                    int to = land.target(state.lanes, at, dir);
                    target[i * DIRS + dir] = to == NONE ? NONE : spotOf(to);
                }
            }
        }

        /** How many knots there can be; in the last one all are gone. */
        private int listMovers(Land land, State state) {
            int knots = 1;
            movers = 0;
            for (int c = 0; c < land.chairs && c < CHAIRS && movers < MOST_MOVERS; c++) {
                if (state.at[c] != NONE) {
                    chairs[movers] = c;
                    bound[movers] = spotOf(land.bound[c]);
                    unit[movers] = knots;
                    knots *= spots + 1;
                    movers++;
                }
            }
            return knots;
        }

        private int knotNow(Land land, State state) {
            int knot = 0;
            for (int m = 0; m < movers && m < MOST_MOVERS; m++) {
                if (land.isChair(chairs[m])) {
                    knot += spotOf(state.at[chairs[m]]) * unit[m];
                }
            }
            return knot;
        }

        private void makeRows(int knots) {
            if (knots > seen.length) {
                seen = new byte[knots];
                queue = new int[knots];
            }
            for (int i = 0; i < knots && i < seen.length; i++) {
                seen[i] = 0;
            }
        }

        /**
         * Knots are gone on from in the order in which they were come to, and STEPS are tried by their numbers:
         * so the way by which a knot is come to first is the first of its shortest ones.
         */
        private boolean search(int first, int last) {
            if (first < 0 || first >= seen.length || first >= queue.length) {
                return false;
            }
            seen[first] = FIRST;
            queue[0] = first;
            queued = 1;
            for (int head = 0; head < queued && head < queue.length; head++) {
                if (queue[head] == last) {
                    return true;
                }
                goOnFrom(queue[head]);
            }
            return false;
        }

        private void readSpots(int knot) {
            for (int m = 0; m < movers && m < MOST_MOVERS; m++) {
                spot[m] = unit[m] > 0 && spots >= 0 ? knot / unit[m] % (spots + 1) : 0;
            }
        }

        private void goOnFrom(int knot) {
            readSpots(knot);
            for (int m = 0; m < movers && m < MOST_MOVERS; m++) {
                for (int dir = 0; dir < DIRS && spot[m] < spots; dir++) {
                    int to = spotBehindStep(m, dir);
                    int then = to == NONE ? NONE : knot + (to - spot[m]) * unit[m];
                    if (then >= 0 && then < seen.length && queued < queue.length && seen[then] == 0) {
                        seen[then] = (byte) (m * DIRS + dir + 1);
                        queue[queued] = then;
                        queued++;
                    }
                }
            }
        }

        /** NONE: there is no such STEP. */
        private int spotBehindStep(int m, int dir) {
            if (m < 0 || m >= MOST_MOVERS) {
                return NONE;
            }
            int i = spot[m] * DIRS + dir;
            int to = i >= 0 && i < target.length ? target[i] : NONE;
            if (to < 0 || to >= MOST_SPOTS) {
                return NONE;
            }
            int free = room[to];
            for (int other = 0; other < movers && other < MOST_MOVERS; other++) {
                free -= spot[other] == to ? 1 : 0;
            }
            if (free <= 0) {
                return NONE;
            }
            return to == bound[m] ? spots : to;
        }

        /** Back from the last knot to the first: once to count, once to write. */
        private void tellSteps(int first, int last) {
            found = 0;
            for (int knot = last; knot != first && found < seen.length; knot = knotAhead(knot)) {
                found++;
            }
            if (found > steps.length) {
                steps = new int[found];
            }
            int knot = last;
            for (int i = found - 1; i >= 0 && i < steps.length; i--) {
                int by = stepInto(knot);
                int m = by / DIRS;
                steps[i] = m < MOST_MOVERS ? DIRS * chairs[m] + by % DIRS : NONE;
                knot = knotAhead(knot);
            }
        }

        private int stepInto(int knot) {
            return knot >= 0 && knot < seen.length && seen[knot] > 0 ? seen[knot] - 1 : 0;
        }

        private int knotAhead(int knot) {
            int by = stepInto(knot);
            int m = by / DIRS;
            if (m >= MOST_MOVERS) {
                return knot;
            }
            readSpots(knot);
            int at = spot[m] == spots ? bound[m] : spot[m];
            switch (by % DIRS) {
                case 0: at += width; break;
                case 1: at--; break;
                case 2: at -= width; break;
                default: at++; break;
            }
            return knot + (at - spot[m]) * unit[m];
        }
    }
}
