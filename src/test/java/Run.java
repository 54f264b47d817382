import java.util.ArrayList;
import java.util.Arrays;
import java.util.List;

/** One object, called by rows (see Calls) or by names, at most as often as the document lets it be used. */
final class Run {
    private final Check check;
    private final String promise;
    private int calls;

    Run(String promise) {
        this.promise = promise;
        check = new Check(promise);
    }

    int left() {
        return Calls.MOST - calls;
    }

    long play(int[] row) {
        calls++;
        if (calls > Calls.MOST) {
            throw new IllegalStateException(promise + ": the test itself calls too often");
        }
        return Face.call(check.x, row[0], Arrays.copyOfRange(row, 1, row.length));
    }

    List<Long> playAll(List<int[]> rows) {
        List<Long> answers = new ArrayList<>();
        for (int[] row : rows) {
            answers.add(play(row));
        }
        return answers;
    }

    long call(String name, int... arguments) {
        return play(Calls.row(name, arguments));
    }

    void write(String text) {
        playAll(Calls.writing(text));
    }

    /** A text is written and taken by alleys, plan or sentence. */
    long take(String name, String text) {
        write(text);
        return call(name);
    }

    void due(long want, String name, int... arguments) {
        check.due("call " + calls + ", " + name + Arrays.toString(arguments), call(name, arguments), want);
    }

    void dueTaken(long want, String name, String text) {
        check.due("call " + calls + ", " + name + "() of '" + text + "'", take(name, text), want);
    }

    /** Answers what = 0, 1, .. of now, or of chair, cell or met with a number ahead of it. */
    void dueAll(String name, int number, long... want) {
        for (int what = 0; what < want.length; what++) {
            if (name.equals("now") || name.equals("judged") || name.equals("count")) {
                due(want[what], name, what);
            } else {
                due(want[what], name, number, what);
            }
        }
    }

    /** The answers of these rows are as told, but for those of some methods. */
    void dueLike(String when, List<Long> want, List<int[]> rows, List<String> without) {
        for (int i = 0; i < rows.size(); i++) {
            int[] row = rows.get(i);
            long got = play(row);
            if (!without.contains(Face.NAMES[row[0]]) && !without.contains(Calls.told(row))) {
                check.due(when + ": " + Calls.told(row), got, want.get(i));
            }
        }
    }
}
