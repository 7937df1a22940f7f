import java.util.ArrayList;
import java.util.List;

/**
 * "A refused call changes nothing": in each of the states below, each call with each number at an
 * edge is answered as the model answers it. If it is refused, or a reading, every answer of the desk
 * is what it was before; else every answer is the model's.
 */
public final class EveryCallTest {
    private static final int[] FAR = {Integer.MIN_VALUE, Integer.MAX_VALUE, -256, 256, 65536};
    private static final List<Call> EVERY_CALL = everyCall();
    private static final String[] KINDS = {"addStep 0 1 0 100", "addStep 1 0 1 7", "addStep 1 1 2 5",
        "addStep 1 2 0 1", "addStep 1 0 7 1", "addStep 3 2 7 2", "addStep 3 1 0 1",
        "supply 0 0 900", "supply 0 1 20", "supply 1 0 3", "supply 1 7 2"};

    private final String name;
    private final Run run;
    private int refused;

    private EveryCallTest(String name, Run run) {
        this.name = name;
        this.run = run;
    }

    public static void main(String[] args) {
        in("a new object", Run.of());
        in("kinds of 1, 4, 0 and 2 steps", kinds());
        in("all nodes down, none begun", kinds().go("crash 0", "crash 1", "crash 2"));
        in("one saga begun, nothing durable", kinds().go("begin 1"));
        in("within a record durable", kinds().go("begin 1", "begin 0", "flush 4"));
        in("the desk down within a START", kinds().go("begin 1", "begin 0", "flush 5", "crash 2"));
        in("the only saga lost", kinds().go("begin 1", "flush 2", "crash 2", "restart 2"));
        in("requests at both services", kinds().go("begin 1", "begin 3", "flush 6"));
        in("replies of both services", kinds().go("begin 1", "begin 3", "flush 6", "2 * deliver 0"));
        in("the desk down within a DONE", doneTwice().go("flush 1", "crash 2"));
        in("the bank down", doneTwice().go("flush 3", "crash 0"));
        in("the hall down", doneTwice().go("flush 3", "crash 1"));
        in("going back", goingBack());
        in("going back, its step undone", goingBack().go("deliver 0"));
        in("the desk down within an UNDONE", goingBack().go("2 * deliver 0", "flush 2", "crash 2"));
        in("one committed, one compensated", over());
        in("those durable too", over().go("flush 9"));
        in("23 messages", kinds().go("begin 1", "begin 3", "flush 6", "21 * repeat 1"));
        in("24 messages", kinds().go("begin 1", "begin 3", "flush 6", "22 * repeat 0"));
        in("24 messages, all down", kinds().go("begin 1", "begin 3", "flush 6", "22 * repeat 0",
                "crash 0", "crash 1", "crash 2"));
        in("12 sagas, nothing durable", kinds().go("12 * begin 3"));
        in("12 sagas, all durable", kinds().go("12 * begin 3", "flush 36"));
        in("12 sagas, the desk down", kinds().go("12 * begin 3", "flush 36", "crash 2"));
        in("11 sagas, the desk down", kinds().go("12 * begin 3", "flush 35", "crash 2"));
        in("288 bytes", fullLog());
        in("288 bytes, all durable", fullLog().go("flush 36"));
        Checks.end();
    }

    private static Run kinds() {
        return Run.of(KINDS);
    }

    private static Run doneTwice() {
        return kinds().go("begin 1", "begin 3", "flush 6", "4 * deliver 0");
    }

    private static Run goingBack() {
        return kinds().go("begin 1", "flush 3", "2 * deliver 0", "flush 3", "2 * deliver 0", "flush 3")
                .go("2 * deliver 0", "flush 3", "2 * deliver 0", "flush 3").due("status 0", 1130);
    }

    private static Run over() {
        return kinds().go("2 * begin 0", "flush 6", "4 * deliver 0").go("begin 0")
                .due("status 0", 210).due("status 1", 300);
    }

    private static Run fullLog() {
        Run run = Run.of("3 * addStep 2 1 6 1", "addStep 2 2 6 1", "12 * begin 2");
        for (int record = 1; record < 8; record++) {
            run.go("flush 36", "24 * deliver 0");
        }
        return run.due("logged", 288);
    }

    private static void in(String name, Run run) {
        new EveryCallTest(name, run).check();
    }

    private void check() {
        Checks.sentence("A refused call changes nothing: " + name);
        int[] before = Views.ofDesk(run.calls());
        Checks.due("the state", Views.difference(Views.ofModel(run.calls()), before), "none");
        for (Call call : EVERY_CALL) {
            checkCall(call, before);
        }
        Checks.due("many calls are refused", refused > 100, true);
    }

    private void checkCall(Call call, int[] before) {
        PlainModel model = new PlainModel();
        LoggedSagaDesk desk = new LoggedSagaDesk();
        run.calls().forEach(earlier -> earlier.on(model));
        run.calls().forEach(earlier -> earlier.on(desk));
        int answer = call.on(model);
        Checks.due(call.toString(), call.on(desk), answer);
        boolean same = call.changesNothing(answer);
        refused += same ? 1 : 0;
        List<Call> longer = new ArrayList<>(run.calls());
        longer.add(call);
        int[] due = same ? before : Views.ofModel(longer);
        Checks.due("after " + call, Views.difference(due, Views.ofDesk(longer)), "none");
    }

    private static List<Call> everyCall() {
        List<Call> calls = new ArrayList<>();
        for (int kind = 0; kind < 4; kind++) {
            add(calls, "addStep " + kind + " % 3 9", 0, 2);
            add(calls, "addStep " + kind + " 1 % 9", 0, 1, 6, 7);
            add(calls, "addStep " + kind + " 2 3 %", 1, 2, 99, 100);
        }
        add(calls, "addStep % 0 0 1", 0, 1, 2, 3);
        for (int node = 0; node < 2; node++) {
            add(calls, "supply " + node + " % 9", 0, 1, 6, 7);
            add(calls, "supply " + node + " 7 %", 0, 1, 999, 1000);
            add(calls, "amount " + node + " %", 0, 7);
        }
        add(calls, "supply % 3 9", 0, 1);
        add(calls, "amount % 0", 0, 1);
        add(calls, "begin %", 0, 1, 2, 3);
        add(calls, "flush %", 1, 2, 3, 4, 5, 6, 35, 36, 37, 287, 288);
        for (String name : new String[] {"deliver", "lose", "repeat", "message"}) {
            add(calls, name + " %", 0, 1, 2, 3, 11, 12, 22, 23);
        }
        for (String name : new String[] {"resend", "status"}) {
            add(calls, name + " %", 0, 1, 2, 10, 11);
        }
        for (String name : new String[] {"crash", "restart", "up", "answered"}) {
            add(calls, name + " %", 0, 1, 2);
        }
        add(calls, "logByte %", 0, 1, 2, 3, 4, 5, 6, 35, 36, 287);
        add(calls, "messages");
        add(calls, "logged");
        add(calls, "durable");
        return calls;
    }

    /** The call with each of the numbers in the place of the %, with both neighbours, and far off. */
    private static void add(List<Call> calls, String text, int... inside) {
        if (inside.length == 0) {
            calls.add(Call.of(text));
            return;
        }
        List<Integer> numbers = new ArrayList<>();
        numbers.add(inside[0] - 1);
        for (int number : inside) {
            numbers.add(number);
        }
        numbers.add(inside[inside.length - 1] + 1);
        for (int number : FAR) {
            numbers.add(number);
        }
        for (int number : numbers) {
            calls.add(Call.of(text.replace("%", Integer.toString(number))));
        }
    }
}
