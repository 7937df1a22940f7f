/** The boundary cases of promises 1 to 4: a new object, addStep, supply, begin. */
public final class SetupBoundaryTest {
    private static final int BAD = LoggedSagaDesk.BAD;
    private static final int DOWN = LoggedSagaDesk.DOWN;
    private static final int FULL = LoggedSagaDesk.FULL;
    private static final int LOCKED = LoggedSagaDesk.LOCKED;

    public static void main(String[] args) {
        newKindsHaveNoSteps();
        newLogIsEmpty();
        newLineIsEmpty();
        addStepKind();
        addStepOp();
        addStepThing();
        addStepAmount();
        addStepSeveralBad();
        addStepLocked();
        addStepNotLocked();
        addStepFull();
        addStepOrder();
        supplyNode();
        supplyThing();
        supplyAmount();
        supplyAfterBegin();
        supplyNotLocked();
        beginKind();
        beginKindWithoutSteps();
        beginDown();
        beginFull();
        beginCountsStartsInTheLog();
        beginOrder();
        Checks.end();
    }

    private static void newKindsHaveNoSteps() {
        Checks.sentence("1: kinds without steps");
        for (int kind = 0; kind < 4; kind++) {
            Run.of().refused("begin " + kind, BAD).due("addStep " + kind + " 0 0 1", 0);
        }
    }

    private static void newLogIsEmpty() {
        Checks.sentence("1: an empty log");
        Run.of().due("logged", 0).due("durable", 0)
                .refused("logByte 0", BAD).refused("flush 1", 0).refused("status 0", BAD);
    }

    private static void newLineIsEmpty() {
        Checks.sentence("1: no messages");
        Run.of().due("messages", 0).refused("message 0", BAD).refused("deliver 0", 0)
                .refused("lose 0", 0).refused("repeat 0", 0).refused("resend 0", 0);
    }

    private static void addStepKind() {
        Checks.sentence("2: BAD when kind is not 0 .. 3");
        Run.of().refusedOutside(0, 3, "addStep % 0 0 1", BAD)
                .due("addStep 0 0 0 1", 0).due("addStep 3 0 0 1", 0)
                .refusedOutside(0, 3, "addStep % 0 0 1", BAD);
    }

    private static void addStepOp() {
        Checks.sentence("2: op not 0 .. 2");
        Run.of().refusedOutside(0, 2, "addStep 0 % 0 1", BAD)
                .due("addStep 0 0 0 1", 0).due("addStep 0 2 0 1", 1)
                .refusedOutside(0, 2, "addStep 0 % 0 1", BAD);
    }

    private static void addStepThing() {
        Checks.sentence("2: thing not 0 .. 7");
        Run.of().refusedOutside(0, 7, "addStep 0 0 % 1", BAD)
                .refusedOutside(0, 7, "addStep 0 2 % 1", BAD)
                .due("addStep 0 0 0 1", 0).due("addStep 0 2 7 1", 1)
                .refusedOutside(0, 7, "addStep 0 1 % 1", BAD);
    }

    private static void addStepAmount() {
        Checks.sentence("2: or amount not 1 .. 100");
        Run.of().refusedOutside(1, 100, "addStep 0 0 0 %", BAD)
                .due("addStep 0 0 0 1", 0).due("addStep 0 2 0 100", 1)
                .refusedOutside(1, 100, "addStep 0 1 0 %", BAD);
    }

    private static void addStepSeveralBad() {
        Checks.sentence("2: BAD when ...");
        Run.of("addStep 0 1 0 1").refused("addStep 4 3 8 101", BAD)
                .refused("addStep -1 -1 -1 0", BAD).refused("addStep 0 3 8 1", BAD);
    }

    private static void addStepLocked() {
        Checks.sentence("2: LOCKED when begin has answered a saga's number before");
        Run.of("addStep 0 1 0 1", "addStep 1 1 0 1").due("addStep 0 1 1 1", 1).due("begin 0", 0)
                .refused("addStep 0 1 1 1", LOCKED).refused("addStep 2 1 1 1", LOCKED)
                .go("crash 2").refused("addStep 0 1 1 1", LOCKED)
                .go("restart 2").due("logged", 0).refused("addStep 0 1 1 1", LOCKED);
    }

    private static void addStepNotLocked() {
        Checks.sentence("2: LOCKED only when begin has answered a saga's number");
        Run.of("addStep 0 1 0 1").due("begin 1", BAD).due("begin 4", BAD)
                .due("addStep 0 1 1 1", 1)
                .go("crash 2").due("begin 0", DOWN).due("addStep 0 1 2 1", 2)
                .go("restart 2").due("addStep 0 1 3 1", 3);
    }

    private static void addStepFull() {
        Checks.sentence("2: FULL when the kind has 4 steps");
        for (int kind = 0; kind < 4; kind++) {
            String step = "addStep " + kind + " 1 5 9";
            Run.of("addStep " + (kind + 1) % 4 + " 0 0 1").dueEach(step, 0, 1, 2, 3)
                    .refused(step, FULL).refused("addStep " + kind + " 2 6 8", FULL)
                    .due("addStep " + (kind + 1) % 4 + " 0 0 1", 1);
        }
    }

    private static void addStepOrder() {
        Checks.sentence("2: BAD, LOCKED, FULL (tested in this order)");
        String[] bad = {"addStep 4 1 0 1", "addStep -1 1 0 1", "addStep 0 3 0 1",
            "addStep 0 -1 0 1", "addStep 0 1 8 1", "addStep 0 1 -1 1", "addStep 0 1 0 0",
            "addStep 0 1 0 101"};
        Run run = Run.of("4 * addStep 0 1 0 1");
        for (String call : bad) {
            run.refused(call, BAD);
        }
        run.refused("addStep 0 1 0 1", FULL).go("begin 0");
        for (String call : bad) {
            run.refused(call, BAD);
        }
        run.refused("addStep 0 1 0 1", LOCKED);
    }

    private static void supplyNode() {
        Checks.sentence("3: false when node is not 0 or 1");
        Run.of("addStep 0 0 0 1").refusedOutside(0, 1, "supply % 0 1", 0)
                .due("supply 0 0 1", 1).due("supply 1 0 2", 1)
                .due("amount 0 0", 1).due("amount 1 0", 2)
                .refusedOutside(0, 1, "supply % 0 5", 0);
    }

    private static void supplyThing() {
        Checks.sentence("3: thing not 0 .. 7");
        Run.of().refusedOutside(0, 7, "supply 0 % 1", 0).refusedOutside(0, 7, "supply 1 % 1", 0)
                .due("supply 0 0 1", 1).due("supply 0 7 2", 1)
                .due("supply 1 0 3", 1).due("supply 1 7 4", 1)
                .due("amount 0 0", 1).due("amount 0 7", 2)
                .due("amount 1 0", 3).due("amount 1 7", 4);
    }

    private static void supplyAmount() {
        Checks.sentence("3: amount not 0 .. 1000");
        for (int node = 0; node < 2; node++) {
            String of3 = "supply " + node + " 3 ";
            Run.of(of3 + "5").refusedOutside(0, 1000, of3 + "%", 0)
                    .due(of3 + "1000", 1).due("amount " + node + " 3", 1000)
                    .due(of3 + "999", 1).due("amount " + node + " 3", 999)
                    .due(of3 + "1", 1).due("amount " + node + " 3", 1)
                    .due(of3 + "0", 1).due("amount " + node + " 3", 0);
        }
    }

    private static void supplyAfterBegin() {
        Checks.sentence("3: or begin has answered a saga's number before");
        Run.of("addStep 0 1 0 1").due("supply 0 0 5", 1).due("begin 0", 0)
                .refused("supply 0 0 6", 0).refused("supply 1 7 6", 0)
                .refused("supply 0 0 5", 0).refused("supply 2 0 5", 0)
                .go("crash 2").refused("supply 0 0 6", 0)
                .go("restart 2").due("logged", 0).refused("supply 0 0 6", 0);
    }

    private static void supplyNotLocked() {
        Checks.sentence("3: false only when begin has answered a saga's number");
        Run.of("addStep 0 1 0 1").due("begin 3", BAD).due("supply 0 0 5", 1)
                .go("crash 0", "crash 1", "crash 2").due("begin 0", DOWN)
                .due("supply 0 0 6", 1).due("supply 1 0 7", 1)
                .due("amount 0 0", 6).due("amount 1 0", 7);
    }

    private static void beginKind() {
        Checks.sentence("4: BAD when kind is not 0 .. 3");
        Run.of("addStep 0 1 0 1", "addStep 1 1 0 1", "addStep 2 1 0 1", "addStep 3 1 0 1")
                .refusedOutside(0, 3, "begin %", BAD)
                .due("begin 0", 0).due("begin 3", 1)
                .refusedOutside(0, 3, "begin %", BAD);
    }

    private static void beginKindWithoutSteps() {
        Checks.sentence("4: or has no steps");
        for (int kind = 0; kind < 4; kind++) {
            Run run = Run.of("addStep " + kind + " 1 0 1");
            for (int other = 0; other < 4; other++) {
                if (other != kind) {
                    run.refused("begin " + other, BAD);
                }
            }
            run.due("begin " + kind, 0).refused("begin " + (kind + 1) % 4, BAD);
        }
    }

    private static void beginDown() {
        Checks.sentence("4: DOWN when the desk is down");
        Run.of("addStep 0 1 0 1", "crash 2").refused("begin 0", DOWN)
                .go("restart 2", "crash 0", "crash 1").due("begin 0", 0)
                .go("flush 2", "crash 2").refused("begin 0", DOWN)
                .go("restart 2").due("begin 0", 0);
    }

    private static void beginFull() {
        Checks.sentence("4: FULL when there are 12 sagas");
        Run run = Run.of("addStep 0 1 0 1", "addStep 3 0 7 9");
        for (int saga = 0; saga < 12; saga++) {
            run.due("begin " + saga % 2 * 3, saga).due("logged", 3 * saga + 3);
        }
        run.refused("begin 0", FULL).refused("begin 3", FULL)
                .go("flush 36", "12 * deliver 0").refused("begin 0", FULL)
                .go("12 * deliver 0", "flush 36").due("status 0", 210).due("status 11", 300)
                .refused("begin 0", FULL);
    }

    private static void beginCountsStartsInTheLog() {
        Checks.sentence("4: Answers its number: how many STARTs were in the log");
        int[] durable = {0, 2, 3, 32, 33, 35};
        int[] number = {0, 0, 1, 10, 11, 11};
        for (int i = 0; i < durable.length; i++) {
            Run.of("addStep 0 1 0 1", "12 * begin 0").refused("begin 0", FULL)
                    .go("flush " + durable[i], "crash 2").refused("begin 0", DOWN)
                    .go("restart 2").due("begin 0", number[i]);
        }
    }

    private static void beginOrder() {
        Checks.sentence("4: BAD, DOWN, FULL (tested in this order)");
        Run.of("addStep 0 1 0 1", "12 * begin 0", "flush 36")
                .refused("begin 4", BAD).refused("begin -1", BAD).refused("begin 1", BAD)
                .refused("begin 0", FULL)
                .go("crash 2")
                .refused("begin 4", BAD).refused("begin -1", BAD).refused("begin 1", BAD)
                .refused("begin 0", DOWN)
                .go("restart 2").refused("begin 0", FULL);
    }
}
