/** Promises 1 to 4: a new object, addStep, supply, begin. */
public final class SetupPromisesTest {
    private static final int[] OUTSIDE = {-1, Integer.MIN_VALUE, Integer.MAX_VALUE};

    public static void main(String[] args) {
        newObject();
        addStepNumbers();
        addStepEdges();
        addStepOrderOfTests();
        lockedOutlastsTheSaga();
        supply();
        supplyEdges();
        begin();
        beginWrong();
        beginOrderOfTests();
        beginAfterCrash();
        Checks.end();
    }

    private static void newObject() {
        LoggedSagaDesk desk = new LoggedSagaDesk();
        Checks.due("a new object", Snapshot.of(desk), "log | durable 0 | line"
                + " | status -1 -1 -1 -1 -1 -1 -1 -1 -1 -1 -1 -1"
                + " | node 0: 0 0 0 0 0 0 0 0 answered 0 | node 1: 0 0 0 0 0 0 0 0 answered 0"
                + " | up truetruetrue");
        for (int kind = 0; kind < 4; kind++) {
            Checks.due("begin of a kind without steps", desk.begin(kind), LoggedSagaDesk.BAD);
        }
        Checks.due("flush of an empty log", desk.flush(9), 0);
        desk.addStep(0, 0, 0, 1);
        desk.begin(0);
        Checks.due("another object is not touched", new LoggedSagaDesk().logged(), 0);
    }

    private static void addStepNumbers() {
        LoggedSagaDesk desk = new LoggedSagaDesk();
        for (int step = 0; step < 4; step++) {
            for (int kind = 0; kind < 4; kind++) {
                Checks.due("addStep", desk.addStep(kind, step % 3, step, 10 + kind), step);
            }
        }
        for (int kind = 0; kind < 4; kind++) {
            Checks.due("the fifth step", desk.addStep(kind, 0, 0, 1), LoggedSagaDesk.FULL);
        }
    }

    private static void addStepEdges() {
        LoggedSagaDesk desk = new LoggedSagaDesk();
        Checks.due("addStep(3, 2, 7, 100)", desk.addStep(3, 2, 7, 100), 0);
        Checks.due("addStep(0, 0, 0, 1)", desk.addStep(0, 0, 0, 1), 0);
        Checks.due("kind 4", desk.addStep(4, 0, 0, 1), LoggedSagaDesk.BAD);
        Checks.due("op 3", desk.addStep(0, 3, 0, 1), LoggedSagaDesk.BAD);
        Checks.due("thing 8", desk.addStep(0, 0, 8, 1), LoggedSagaDesk.BAD);
        Checks.due("amount 0", desk.addStep(0, 0, 0, 0), LoggedSagaDesk.BAD);
        Checks.due("amount 101", desk.addStep(0, 0, 0, 101), LoggedSagaDesk.BAD);
        for (int wrong : OUTSIDE) {
            Checks.due("kind " + wrong, desk.addStep(wrong, 0, 0, 1), LoggedSagaDesk.BAD);
            Checks.due("op " + wrong, desk.addStep(0, wrong, 0, 1), LoggedSagaDesk.BAD);
            Checks.due("thing " + wrong, desk.addStep(0, 0, wrong, 1), LoggedSagaDesk.BAD);
            Checks.due("amount " + wrong, desk.addStep(0, 0, 0, wrong), LoggedSagaDesk.BAD);
        }
        Checks.due("none of those was added", desk.addStep(0, 0, 0, 1), 1);
        desk.crash(2);
        Checks.due("also while the desk is down", desk.addStep(0, 1, 0, 1), 2);
    }

    private static void addStepOrderOfTests() {
        LoggedSagaDesk desk = new LoggedSagaDesk();
        for (int step = 0; step < 4; step++) {
            desk.addStep(0, 0, 0, 1);
        }
        Checks.due("BAD before FULL", desk.addStep(0, 0, 0, 0), LoggedSagaDesk.BAD);
        Checks.due("a begin that is refused", desk.begin(1), LoggedSagaDesk.BAD);
        Checks.due("does not lock", desk.addStep(0, 0, 0, 1), LoggedSagaDesk.FULL);
        desk.crash(2);
        Checks.due("a begin that is refused", desk.begin(0), LoggedSagaDesk.DOWN);
        Checks.due("does not lock", desk.addStep(1, 0, 0, 1), 0);
        desk.restart(2);
        Checks.due("begin(0)", desk.begin(0), 0);
        Checks.due("LOCKED before FULL", desk.addStep(0, 0, 0, 1), LoggedSagaDesk.LOCKED);
        Checks.due("BAD before LOCKED", desk.addStep(0, 0, 8, 1), LoggedSagaDesk.BAD);
        Checks.due("LOCKED", desk.addStep(1, 0, 0, 1), LoggedSagaDesk.LOCKED);
    }

    private static void lockedOutlastsTheSaga() {
        LoggedSagaDesk desk = new LoggedSagaDesk();
        desk.addStep(0, 0, 0, 1);
        desk.begin(0);
        desk.crash(2);
        desk.restart(2);
        Checks.due("the saga is gone", desk.status(0), LoggedSagaDesk.BAD);
        Checks.due("addStep still", desk.addStep(0, 0, 0, 1), LoggedSagaDesk.LOCKED);
        Checks.due("supply still", desk.supply(0, 0, 1), false);
    }

    private static void supply() {
        LoggedSagaDesk desk = new LoggedSagaDesk();
        for (int thing = 0; thing < 8; thing++) {
            Checks.due("supply", desk.supply(0, thing, 100 + thing), true);
            Checks.due("supply", desk.supply(1, thing, 200 + thing), true);
        }
        for (int thing = 0; thing < 8; thing++) {
            Checks.due("account " + thing, desk.amount(0, thing), 100 + thing);
            Checks.due("room " + thing, desk.amount(1, thing), 200 + thing);
        }
        Checks.due("supply makes, not adds", desk.supply(0, 3, 5), true);
        Checks.due("account 3", desk.amount(0, 3), 5);
        desk.crash(0);
        Checks.due("also while the bank is down", desk.supply(0, 3, 6), true);
        Checks.due("account 3", desk.amount(0, 3), 6);
    }

    private static void supplyEdges() {
        LoggedSagaDesk desk = new LoggedSagaDesk();
        Checks.due("amount 1000", desk.supply(1, 7, 1000), true);
        Checks.due("amount 0", desk.supply(0, 7, 0), true);
        String before = Snapshot.of(desk);
        Checks.due("node 2", desk.supply(2, 0, 1), false);
        Checks.due("thing 8", desk.supply(0, 8, 1), false);
        Checks.due("amount 1001", desk.supply(0, 0, 1001), false);
        for (int wrong : OUTSIDE) {
            Checks.due("node " + wrong, desk.supply(wrong, 0, 1), false);
            Checks.due("thing " + wrong, desk.supply(1, wrong, 1), false);
            Checks.due("amount " + wrong, desk.supply(1, 0, wrong), false);
        }
        Checks.due("nothing was changed", Snapshot.of(desk), before);
        desk.addStep(0, 0, 0, 1);
        Checks.due("after a begin that is BAD", desk.begin(1), LoggedSagaDesk.BAD);
        Checks.due("supply", desk.supply(0, 0, 8), true);
        desk.begin(0);
        Checks.due("supply after begin", desk.supply(0, 0, 9), false);
        Checks.due("account 0", desk.amount(0, 0), 8);
    }

    private static void begin() {
        LoggedSagaDesk desk = new LoggedSagaDesk();
        desk.addStep(3, 0, 0, 1);
        desk.addStep(0, 0, 0, 1);
        for (int saga = 0; saga < 12; saga++) {
            int kind = saga % 2 * 3;
            Checks.due("begin(" + kind + ")", desk.begin(kind), saga);
            Checks.due("logged()", desk.logged(), 3 * saga + 3);
            Checks.due("START", desk.logByte(3 * saga), 1);
            Checks.due("saga", desk.logByte(3 * saga + 1), saga);
            Checks.due("kind", desk.logByte(3 * saga + 2), kind);
        }
        Checks.due("not durable", desk.durable(), 0);
        Checks.due("nothing is sent", desk.messages(), 0);
        String before = Snapshot.of(desk);
        Checks.due("the thirteenth", desk.begin(0), LoggedSagaDesk.FULL);
        Checks.due("nothing was changed", Snapshot.of(desk), before);
    }

    private static void beginWrong() {
        LoggedSagaDesk desk = new LoggedSagaDesk();
        desk.addStep(0, 0, 0, 1);
        desk.addStep(3, 0, 0, 1);
        for (int wrong : OUTSIDE) {
            Checks.due("begin(" + wrong + ")", desk.begin(wrong), LoggedSagaDesk.BAD);
        }
        Checks.due("begin(4)", desk.begin(4), LoggedSagaDesk.BAD);
        Checks.due("begin(1)", desk.begin(1), LoggedSagaDesk.BAD);
        Checks.due("begin(2)", desk.begin(2), LoggedSagaDesk.BAD);
        Checks.due("logged()", desk.logged(), 0);
    }

    private static void beginOrderOfTests() {
        LoggedSagaDesk desk = new LoggedSagaDesk();
        desk.addStep(0, 0, 0, 1);
        for (int saga = 0; saga < 12; saga++) {
            desk.begin(0);
        }
        desk.flush(100);
        Checks.due("BAD before FULL", desk.begin(1), LoggedSagaDesk.BAD);
        desk.crash(2);
        Checks.due("BAD before DOWN", desk.begin(1), LoggedSagaDesk.BAD);
        Checks.due("DOWN before FULL", desk.begin(0), LoggedSagaDesk.DOWN);
        desk.restart(2);
        Checks.due("FULL", desk.begin(0), LoggedSagaDesk.FULL);
        desk.crash(0);
        desk.crash(1);
        Checks.due("services that are down do not matter", desk.begin(0), LoggedSagaDesk.FULL);
    }

    private static void beginAfterCrash() {
        LoggedSagaDesk desk = new LoggedSagaDesk();
        desk.addStep(0, 0, 0, 1);
        desk.addStep(1, 1, 0, 1);
        desk.addStep(1, 2, 0, 1);
        desk.begin(0);
        desk.begin(0);
        desk.begin(0);
        desk.flush(4);
        desk.crash(2);
        desk.restart(2);
        Checks.due("numbers of lost sagas come again", desk.begin(1), 1);
        desk.flush(3);
        Checks.due("the kind is the new one", desk.logByte(5), 1);
        desk.lose(0);
        desk.lose(0);
        Checks.due("its first request", desk.message(0), 1000);
        desk.deliver(0);
        Checks.due("the new kind's step is done", desk.amount(0, 0), 1);
        desk.deliver(0);
        Checks.due("and has two of them", desk.status(1), 10);
    }
}
