import java.util.NoSuchElementException;

/** Both the class and the model behind one face: a call by its number, with the answer as a long. */
final class Face {
    static final long THROWS = Long.MIN_VALUE;
    static final String[] NAMES = {"feed", "end", "alleys", "fault", "chair", "cell", "way", "next", "order", "on",
        "now", "met", "undo", "lane", "untied", "step", "oneWay", "last", "invited", "began", "lent", "torches",
        "voted", "when", "latest", "drawn", "odds", "plan", "judge", "judged", "sentence", "said", "image", "restore",
        "count"};
    static final int[] ARGUMENTS = {5, 1, 0, 0, 2, 2, 2, 1, 1, 1, 1, 2, 0, 2, 0, 1, 0, 0, 1, 0, 2, 4, 1, 1, 0, 1, 2,
        0, 1, 1, 0, 1, 1, 1, 1};

    private Face() {
    }

    static int method(String name) {
        for (int i = 0; i < NAMES.length; i++) {
            if (NAMES[i].equals(name)) {
                return i;
            }
        }
        throw new IllegalArgumentException(name);
    }

    private static long of(boolean b) {
        return b ? 1 : 0;
    }

    static long call(ChairAlley x, int method, int[] a) {
        switch (NAMES[method]) {
            case "feed": return x.feed(a[0], a[1], a[2], a[3], a[4]);
            case "end": return of(x.end(a[0]));
            case "alleys": return x.alleys();
            case "fault": return x.fault();
            case "chair":
                try {
                    return x.chair(a[0], a[1]);
                } catch (NoSuchElementException e) {
                    return THROWS;
                }
            case "cell":
                try {
                    return x.cell(a[0], a[1]);
                } catch (NoSuchElementException e) {
                    return THROWS;
                }
            case "way": return x.way(a[0], a[1]);
            case "next": return x.next(a[0]);
            case "order": return x.order(a[0]);
            case "on": return x.on(a[0]);
            case "now": return x.now(a[0]);
            case "met": return x.met(a[0], a[1]);
            case "undo": return x.undo();
            case "lane": return of(x.lane(a[0], a[1]));
            case "untied": return x.untied();
            case "step": return x.step(a[0]);
            case "oneWay": return x.oneWay();
            case "last": return x.last();
            case "invited": return x.invited(a[0]);
            case "began": return x.began();
            case "lent": return x.lent(a[0], a[1]);
            case "torches": return x.torches(a[0], a[1], a[2], a[3]);
            case "voted": return x.voted(a[0]);
            case "when": return x.when(a[0]);
            case "latest": return x.latest();
            case "drawn": return of(x.drawn(a[0]));
            case "odds": return x.odds(a[0], a[1]);
            case "plan": return x.plan();
            case "judge": return x.judge(a[0]);
            case "judged": return x.judged(a[0]);
            case "sentence": return x.sentence();
            case "said": return x.said(a[0]);
            case "image": return of(x.image(a[0]));
            case "restore": return of(x.restore(a[0]));
            default: return x.count(a[0]);
        }
    }

    static long call(Model x, int method, int[] a) {
        switch (NAMES[method]) {
            case "feed": return x.feed(a[0], a[1], a[2], a[3], a[4]);
            case "end": return of(x.end(a[0]));
            case "alleys": return x.alleys();
            case "fault": return x.fault();
            case "chair":
                try {
                    return x.chair(a[0], a[1]);
                } catch (NoSuchElementException e) {
                    return THROWS;
                }
            case "cell":
                try {
                    return x.cell(a[0], a[1]);
                } catch (NoSuchElementException e) {
                    return THROWS;
                }
            case "way": return x.way(a[0], a[1]);
            case "next": return x.next(a[0]);
            case "order": return x.order(a[0]);
            case "on": return x.on(a[0]);
            case "now": return x.now(a[0]);
            case "met": return x.met(a[0], a[1]);
            case "undo": return x.undo();
            case "lane": return of(x.lane(a[0], a[1]));
            case "untied": return x.untied();
            case "step": return x.step(a[0]);
            case "oneWay": return x.oneWay();
            case "last": return x.last();
            case "invited": return x.invited(a[0]);
            case "began": return x.began();
            case "lent": return x.lent(a[0], a[1]);
            case "torches": return x.torches(a[0], a[1], a[2], a[3]);
            case "voted": return x.voted(a[0]);
            case "when": return x.when(a[0]);
            case "latest": return x.latest();
            case "drawn": return of(x.drawn(a[0]));
            case "odds": return x.odds(a[0], a[1]);
            case "plan": return x.plan();
            case "judge": return x.judge(a[0]);
            case "judged": return x.judged(a[0]);
            case "sentence": return x.sentence();
            case "said": return x.said(a[0]);
            case "image": return of(x.image(a[0]));
            case "restore": return of(x.restore(a[0]));
            default: return x.count(a[0]);
        }
    }
}
