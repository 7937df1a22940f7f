import java.util.ArrayList;
import java.util.List;
import java.util.function.Supplier;
import java.util.function.ToIntFunction;

/**
 * All that a desk answers after a run of calls: every reading, inside its bounds and just outside
 * of them, and how the desk goes on from there, which shows what no reading tells (the steps of the
 * kinds, whether they are locked, the answers that are kept). A desk is promised for 512 calls
 * only, so each part is asked of a desk of its own that has gone through the same run.
 */
final class Views {
    private static final int CALLS_OF_A_DESK = 512;
    private static final List<List<Call>> PARTS = List.of(
            logBytes(-1, 143), logBytes(144, 288), readings(), goOnAsItIs(), setUpFurther());

    private Views() {
    }

    static int[] ofDesk(List<Call> run) {
        return after(run, () -> {
            LoggedSagaDesk desk = new LoggedSagaDesk();
            return call -> call.on(desk);
        });
    }

    static int[] ofModel(List<Call> run) {
        return after(run, () -> {
            PlainModel model = new PlainModel();
            return call -> call.on(model);
        });
    }

    private static int[] after(List<Call> run, Supplier<ToIntFunction<Call>> maker) {
        List<Integer> answers = new ArrayList<>();
        for (List<Call> part : PARTS) {
            checkLength(run.size() + part.size());
            ToIntFunction<Call> made = maker.get();
            for (Call call : run) {
                made.applyAsInt(call);
            }
            for (Call question : part) {
                answers.add(made.applyAsInt(question));
            }
        }
        return answers.stream().mapToInt(Integer::intValue).toArray();
    }

    /** The first question that is answered otherwise, with both answers; "none" if there is none. */
    static String difference(int[] due, int[] got) {
        int i = 0;
        for (List<Call> part : PARTS) {
            for (Call question : part) {
                if (due[i] != got[i]) {
                    return question + " answers " + got[i] + " instead of " + due[i];
                }
                i++;
            }
        }
        return "none";
    }

    /** What a desk answers after its last promised call is free, so no test may look at it. */
    static void checkLength(int calls) {
        if (calls > CALLS_OF_A_DESK) {
            Checks.due("calls of one desk", calls, CALLS_OF_A_DESK);
        }
    }

    private static void add(List<Call> part, String call, int from, int to) {
        for (int number = from; number <= to; number++) {
            part.add(Call.of(call + " " + number));
        }
    }

    private static List<Call> logBytes(int from, int to) {
        List<Call> part = new ArrayList<>();
        part.add(Call.of("logged"));
        part.add(Call.of("durable"));
        add(part, "logByte", from, to);
        return part;
    }

    private static List<Call> readings() {
        List<Call> part = new ArrayList<>();
        part.add(Call.of("messages"));
        add(part, "message", -1, 24);
        add(part, "status", -1, 12);
        for (int node = -1; node <= 2; node++) {
            add(part, "amount " + node, -1, 8);
        }
        add(part, "answered", -1, 2);
        add(part, "up", -1, 3);
        return part;
    }

    private static List<Call> setUpFurther() {
        List<Call> part = new ArrayList<>();
        for (int kind = 0; kind < 4; kind++) {
            part.add(Call.of("addStep " + kind + " 2 7 1"));
        }
        part.add(Call.of("supply 1 6 77"));
        part.add(Call.of("amount 1 6"));
        goOn(part, 4);
        return part;
    }

    private static List<Call> goOnAsItIs() {
        List<Call> part = new ArrayList<>();
        goOn(part, 10);
        return part;
    }

    private static void goOn(List<Call> part, int rounds) {
        add(part, "restart", 0, 2);
        add(part, "begin", 0, 3);
        for (int round = 0; round < rounds; round++) {
            part.add(Call.of("flush 288"));
            for (int i = 0; i < 12; i++) {
                part.add(Call.of("deliver 0"));
            }
        }
        for (int node = 0; node < 2; node++) {
            add(part, "amount " + node, 0, 7);
            part.add(Call.of("answered " + node));
        }
        add(part, "status", 0, 11);
        part.add(Call.of("logged"));
        part.add(Call.of("messages"));
    }
}
