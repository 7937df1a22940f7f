import java.util.ArrayList;
import java.util.Arrays;
import java.util.List;

/** A run of calls on one new desk, each told as Call has it; "12 * begin 0" is twelve calls. */
final class Run {
    private final List<Call> calls = new ArrayList<>();
    private final LoggedSagaDesk desk = new LoggedSagaDesk();
    private int[] view = {};
    private int viewedAt = -1;

    static Run of(String... calls) {
        return new Run().go(calls);
    }

    /** Makes calls whose answers are looked at elsewhere. */
    Run go(String... texts) {
        for (String text : texts) {
            int star = text.indexOf('*');
            int times = star < 0 ? 1 : Integer.parseInt(text.substring(0, star).trim());
            Call call = Call.of(text.substring(star + 1));
            for (int i = 0; i < times; i++) {
                answerTo(call);
            }
        }
        return this;
    }

    Run due(String text, int answer) {
        Call call = Call.of(text);
        String told = told(call);
        Checks.due(told, answerTo(call), answer);
        return this;
    }

    /** The same call several times. */
    Run dueEach(String text, int... answers) {
        for (int answer : answers) {
            due(text, answer);
        }
        return this;
    }

    /** The same call with 0, 1, 2 and so on behind it. */
    Run dueFrom0(String text, int... answers) {
        for (int i = 0; i < answers.length; i++) {
            due(text + " " + i, answers[i]);
        }
        return this;
    }

    /**
     * The call is refused with this answer, and every answer is what it was before the call. It is
     * made on desks of its own that have gone through this run, which goes on without it.
     */
    Run refused(String text, int answer) {
        Call call = Call.of(text);
        LoggedSagaDesk other = new LoggedSagaDesk();
        calls.forEach(earlier -> earlier.on(other));
        Checks.due(told(call), call.on(other), answer);
        List<Call> longer = new ArrayList<>(calls);
        longer.add(call);
        Checks.due(told(call) + " changed an answer",
                Views.difference(viewNow(), Views.ofDesk(longer)), "none");
        return this;
    }

    /** As refused, for numbers not from low to high in the place of the %. */
    Run refusedOutside(int low, int high, String text, int answer) {
        for (int number : outside(low, high)) {
            refused(text.replace("%", Integer.toString(number)), answer);
        }
        return this;
    }

    /** Both neighbours, both ends of int, and numbers that an int cut to a byte or a short lets in. */
    static int[] outside(int low, int high) {
        int[] all = {low - 1, high + 1, Integer.MIN_VALUE, Integer.MIN_VALUE + low + 1,
            Integer.MAX_VALUE, low - 256, low + 256, high - 65536, low + 65536};
        return Arrays.stream(all).filter(n -> n < low || n > high).toArray();
    }

    List<Call> calls() {
        return calls;
    }

    private int[] viewNow() {
        if (viewedAt != calls.size()) {
            view = Views.ofDesk(calls);
            viewedAt = calls.size();
        }
        return view;
    }

    private int answerTo(Call call) {
        calls.add(call);
        Views.checkLength(calls.size());
        return call.on(desk);
    }

    private String told(Call call) {
        return "after " + calls.size() + " calls (.. "
                + calls.subList(Math.max(0, calls.size() - 8), calls.size()) + "): " + call;
    }
}
