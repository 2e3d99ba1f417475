import java.util.ArrayList;
import java.util.List;
import java.util.Set;
import java.util.TreeSet;

/**
 * One sentence of the document, tried at its boundary: a run of calls on a new object, of at most 512.
 * A refused call is compared with its absence too: whatever is called later must answer the same after it and without it.
 */
final class Edge {
    interface Call {
        long on(QuotaMeter m);
    }

    private static final int MOST_CALLS = 512;
    /** What the tests that ran so far have named. */
    static final Set<Integer> PROMISES = new TreeSet<>();
    static final Set<String> SENTENCES = new TreeSet<>();

    private final String name;
    private final List<Call> run = new ArrayList<>();
    private final QuotaMeter meter = new QuotaMeter();

    Edge(int promise, String sentence) {
        name = "Promise " + promise + ", '" + sentence + "': ";
        PROMISES.add(promise);
        SENTENCES.add(sentence);
    }

    /** A call that only leads up to the boundary; it must be taken. */
    Edge given(Call call) {
        Check.holds(name + "call " + run.size() + " of the way there is taken", answer(call) >= 0);
        return this;
    }

    Edge due(String what, long want, Call call) {
        Check.due(name + what, want, answer(call));
        return this;
    }

    Edge refused(String what, long want, Call call) {
        changesNothing(what, call);
        return due(what, want, call);
    }

    /** Kind, resource, quantity and money of a line. */
    Edge lineIs(int invoice, int line, long... want) {
        for (int i = 0; i < 4; i++) {
            int what = i;
            due("line(" + invoice + ", " + line + ", " + what + ")", want[what], m -> m.line(invoice, line, what));
        }
        return this;
    }

    /** How many lines an invoice has, and their sum. */
    Edge invoiceIs(int invoice, int lines, long sum) {
        due("lines of invoice " + invoice, lines, m -> m.invoice(invoice, 2));
        due("no line behind the last", -2, m -> m.line(invoice, lines, 0));
        return due("sum of invoice " + invoice, sum, m -> m.invoice(invoice, 3));
    }

    private long answer(Call call) {
        run.add(call);
        if (run.size() > MOST_CALLS) {
            throw new IllegalStateException(name + "the run is longer than the document promises");
        }
        return call.on(meter);
    }

    private QuotaMeter again() {
        QuotaMeter m = new QuotaMeter();
        for (Call call : run) {
            call.on(m);
        }
        return m;
    }

    private void changesNothing(String what, Call call) {
        QuotaMeter seen = again();
        Later later = new Later(seen.count(0), seen.count(1), seen.count(4));
        int free = MOST_CALLS - run.size() - 1;
        boolean isSame = free > 0;
        List<Call> questions = later.questions();
        for (int from = 0; isSame && from < questions.size(); from += free) {
            isSame = isSameAfter(call, questions.subList(from, Math.min(from + free, questions.size())));
        }
        for (List<Call> story : later.stories()) {
            isSame = isSame && isSameAfter(call, story.subList(0, Math.min(free, story.size())));
        }
        Check.holds(name + what + ", and later calls show no change", isSame);
    }

    private boolean isSameAfter(Call call, List<Call> laterCalls) {
        QuotaMeter without = again();
        QuotaMeter with = again();
        call.on(with);
        for (Call later : laterCalls) {
            if (later.on(without) != later.on(with)) {
                return false;
            }
        }
        return true;
    }
}
