import java.util.ArrayList;
import java.util.List;
import java.util.NoSuchElementException;
import java.util.function.Consumer;

/**
 * Two objects that have lived the same; on one of them more is done, which must change nothing. All that can be seen
 * of both is held side by side, and what they answer when they go on. Each part has objects of its own, so that none
 * is used for more than 512 calls.
 */
final class Twins {
    private static final int PARTS = 9;
    private static final int NO_SUCH = Integer.MIN_VALUE;

    private final String promise;
    private final Consumer<Check> lived;
    private final List<Integer> seen = new ArrayList<>();
    private boolean withFault = true;
    private boolean withSteps = true;
    private boolean withJudged = true;

    Twins(String promise, Consumer<Check> lived) {
        this.promise = promise;
        this.lived = lived;
    }

    /** What a text with a FAULT may change. */
    Twins withoutFault() {
        withFault = false;
        return this;
    }

    /** What untied() may change. */
    Twins withoutSteps() {
        withSteps = false;
        return this;
    }

    /** What judge() may change. */
    Twins withoutJudged() {
        withJudged = false;
        return this;
    }

    /** Nothing is changed by what is done. */
    void stay(String call, Consumer<Check> done) {
        differBy(call, done, k -> { });
    }

    /** What is done changes as much as something else does. */
    void differBy(String call, Consumer<Check> done, Consumer<Check> instead) {
        for (int part = 0; part < PARTS; part++) {
            List<Integer> due = look(part, instead);
            List<Integer> got = look(part, done);
            Check k = new Check(promise);
            k.due("after " + call + ": part " + part + ", answers", got.size(), due.size());
            for (int i = 0; i < due.size() && i < got.size(); i++) {
                k.due("after " + call + ": part " + part + ", answer " + i, got.get(i), due.get(i));
            }
        }
    }

    private List<Integer> look(int part, Consumer<Check> done) {
        Check k = new Check(promise);
        lived.accept(k);
        done.accept(k);
        seen.clear();
        switch (part) {
            case 0: seeAll(k); break;
            case 1: seeCells(k, 0, 3); break;
            case 2: seeCells(k, 3, 5); break;
            case 3: seeMeetings(k); break;
            case 4: undoAll(k); break;
            case 5: goOn(k); break;
            case 6: restore(k, 0); break;
            case 7: restore(k, 1); break;
            default: useTheTape(k); break;
        }
        return new ArrayList<>(seen);
    }

    private void see(int answer) {
        seen.add(answer);
    }

    private void see(boolean answer) {
        seen.add(answer ? 1 : 0);
    }

    private void seeAll(Check k) {
        for (int what = 0; what < 9; what++) {
            see(k.x.count(what));
        }
        for (int what = 0; what < 6; what++) {
            see(k.x.now(what));
        }
        for (int c = 0; c < 8; c++) {
            for (int what = 0; what < 10; what++) {
                see(chair(k, c, what));
            }
            see(k.x.order(c));
            see(k.x.next(c));
            see(k.x.when(c));
            see(k.x.said(c));
        }
        see(k.x.said(-1));
        see(k.x.last());
        see(k.x.latest());
        see(k.x.began());
        see(k.x.met(0, 0));
        for (int what = 0; what < 3 && withJudged; what++) {
            see(k.x.judged(what));
        }
        for (int i = 0; i < 10 && withSteps; i++) {
            see(k.x.step(i));
        }
        if (withFault) {
            see(k.x.fault());
        }
    }

    private static int chair(Check k, int c, int what) {
        try {
            return k.x.chair(c, what);
        } catch (NoSuchElementException e) {
            return NO_SUCH;
        }
    }

    private static int cell(Check k, int at, int what) {
        try {
            return k.x.cell(at, what);
        } catch (NoSuchElementException e) {
            return NO_SUCH;
        }
    }

    private void seeCells(Check k, int from, int to) {
        for (int at = 0; at < 100; at++) {
            for (int what = from; what < to; what++) {
                see(cell(k, at, what));
            }
        }
    }

    private void seeMeetings(Check k) {
        for (int i = 0; i < 62; i++) {
            for (int what = 0; what < 5; what++) {
                see(k.x.met(i, what));
            }
        }
    }

    private void undoAll(Check k) {
        for (int i = 0; i < 9; i++) {
            see(k.x.undo());
            for (int what = 0; what < 6; what++) {
                see(k.x.now(what));
            }
            for (int c = 0; c < 4; c++) {
                see(chair(k, c, 0));
                see(chair(k, c, 4));
                see(chair(k, c, 6));
            }
            see(k.x.count(6));
            see(k.x.count(7));
        }
    }

    private void goOn(Check k) {
        for (int n : new int[] {1, 1, 1, 20, 100}) {
            see(k.x.on(n));
            for (int c = 0; c < 4; c++) {
                see(chair(k, c, 0));
                see(chair(k, c, 8));
            }
            see(k.x.now(3));
        }
        see(k.x.judge(1));
        see(k.x.judged(1));
        see(k.x.untied());
        see(k.x.step(0));
        see(k.x.undo());
        seeAll(k);
    }

    private void restore(Check k, int place) {
        see(k.x.restore(place));
        seeAll(k);
        see(k.x.undo());
        see(k.x.image(1 - place));
        see(k.x.restore(1 - place));
        see(k.x.on(1));
        see(k.x.undo());
        see(k.x.undo());
    }

    private void useTheTape(Check k) {
        int length = k.x.count(8);
        see(length);
        see(k.x.end(length + 1));
        see(k.x.feed(0x77616c6c, 0x20302030, 0x3b202020, 0x20202020, 0x20202020));
        see(k.x.count(8));
        see(k.x.end(Math.min(length, 900)));
        see(k.x.alleys());
        see(k.x.fault());
        seeAll(k);
    }
}
