/** The boundary cases of promises 12, 13 and 16 to 20: amount, status, the log, answered, up. */
public final class ReadingBoundaryTest {
    private static final int BAD = LoggedSagaDesk.BAD;
    private static final String[] LONGEST = {"addStep 3 1 0 1", "addStep 3 1 1 1",
        "addStep 3 1 2 1", "addStep 3 2 7 1", "12 * begin 3"};

    public static void main(String[] args) {
        amountNode();
        amountThing();
        amountOfDeskIsNoRoom();
        statusNoSuchSaga();
        statusOfTwelve();
        statusAfterLoss();
        statusForward();
        statusBack();
        statusCommitted();
        statusCompensated();
        statusWaits();
        loggedEmptyAndFull();
        durableEmptyAndFull();
        durableWithinARecord();
        logByteNone();
        logByteOfEmptyAndFull();
        logByteNotDurable();
        answeredNode();
        answeredNoneAndMost();
        upNode();
        Checks.end();
    }

    private static void amountNode() {
        Checks.sentence("12: 0 when node is not 0 or 1");
        Run.of("supply 0 3 1000", "supply 1 3 999")
                .due("amount 0 3", 1000).due("amount 1 3", 999)
                .refusedOutside(0, 1, "amount % 3", 0);
    }

    private static void amountThing() {
        Checks.sentence("12: 0 when ... thing is not 0 .. 7");
        Run.of("supply 0 0 1", "supply 0 7 2", "supply 1 0 3", "supply 1 7 4")
                .due("amount 0 0", 1).due("amount 0 7", 2)
                .due("amount 1 0", 3).due("amount 1 7", 4)
                .refusedOutside(0, 7, "amount 0 %", 0).refusedOutside(0, 7, "amount 1 %", 0);
    }

    private static void amountOfDeskIsNoRoom() {
        Checks.sentence("12: both wrong");
        Run.of("supply 0 7 2", "supply 1 0 3").refused("amount 2 0", 0).refused("amount -1 8", 0)
                .refused("amount 2 -1", 0);
    }

    private static void statusNoSuchSaga() {
        Checks.sentence("13: BAD when there is no such saga");
        Run.of("addStep 0 1 0 1").refusedOutside(0, -1, "status %", BAD)
                .go("begin 0").due("status 0", 0).refusedOutside(0, 0, "status %", BAD)
                .go("begin 0").due("status 1", 0).refusedOutside(0, 1, "status %", BAD);
    }

    private static void statusOfTwelve() {
        Checks.sentence("13: BAD when there is no such saga, of twelve");
        Run.of("addStep 0 1 0 1", "12 * begin 0").due("status 0", 0).due("status 11", 0)
                .refusedOutside(0, 11, "status %", BAD)
                .go("flush 36").due("status 11", 1000).refusedOutside(0, 11, "status %", BAD);
    }

    private static void statusAfterLoss() {
        Checks.sentence("13: no such saga when its START is not in the log any more");
        Run.of("addStep 0 1 0 1", "3 * begin 0", "flush 5").due("status 2", 0)
                .go("crash 2").due("status 0", 1000).due("status 1", BAD).due("status 2", BAD)
                .go("restart 2").due("status 0", 1000).due("status 1", BAD);
    }

    private static void statusForward() {
        Checks.sentence("13: 10 * d + u, plus 0 when it goes forward");
        Run run = Run.of("4 * addStep 0 1 0 1", "begin 0");
        for (int done = 0; done < 4; done++) {
            run.due("status 0", 10 * done).go("flush 3").due("status 0", 1000 + 10 * done)
                    .go("deliver 0", "deliver 0");
        }
        run.due("status 0", 240);
    }

    private static void statusBack() {
        Checks.sentence("13: 100 when it goes back");
        Run run = Run.of("3 * addStep 0 1 0 1", "addStep 0 0 7 1", "begin 0")
                .go("flush 3", "2 * deliver 0", "flush 3", "2 * deliver 0")
                .go("flush 3", "2 * deliver 0", "flush 3", "2 * deliver 0");
        for (int undone = 0; undone < 3; undone++) {
            run.due("status 0", 130 + undone).go("flush 3").due("status 0", 1130 + undone)
                    .go("deliver 0", "deliver 0");
        }
        run.due("status 0", 333);
    }

    private static void statusCommitted() {
        Checks.sentence("13: 200 when it is committed");
        for (int steps = 1; steps <= 4; steps++) {
            Run run = Run.of(steps + " * addStep 0 2 0 1", "supply 1 0 4", "begin 0");
            for (int done = 0; done < steps; done++) {
                run.due("status 0", 10 * done).go("flush 3", "deliver 0", "deliver 0");
            }
            run.due("status 0", 200 + 10 * steps).go("flush 3").due("status 0", 200 + 10 * steps);
        }
    }

    private static void statusCompensated() {
        Checks.sentence("13: 300 when it is compensated");
        for (int done = 0; done <= 3; done++) {
            Run run = Run.of(done + " * addStep 0 1 0 1", "addStep 0 0 7 1", "begin 0");
            for (int step = 0; step <= done; step++) {
                run.due("status 0", 10 * step).go("flush 3", "2 * deliver 0");
            }
            for (int undone = 0; undone < done; undone++) {
                run.due("status 0", 100 + 10 * done + undone).go("flush 3", "2 * deliver 0");
            }
            run.due("status 0", 300 + 11 * done).go("flush 3").due("status 0", 300 + 11 * done);
        }
    }

    private static void statusWaits() {
        Checks.sentence("13: plus 1000 if it waits");
        Run.of("addStep 0 1 0 1", "begin 0").due("status 0", 0)
                .go("flush 1").due("status 0", 0).go("flush 1").due("status 0", 0)
                .go("flush 1").due("status 0", 1000)
                .go("crash 2").due("status 0", 1000)
                .go("restart 2", "deliver 0").due("status 0", 1000)
                .go("deliver 1").due("status 0", 210).go("flush 3").due("status 0", 210);
    }

    private static Run fullLog() {
        return Run.of(LONGEST).go("flush 36", "24 * deliver 0", "flush 36", "24 * deliver 0")
                .go("flush 36", "24 * deliver 0", "flush 36", "24 * deliver 0")
                .go("flush 36", "24 * deliver 0", "flush 36", "24 * deliver 0")
                .go("flush 36", "24 * deliver 0");
    }

    private static void loggedEmptyAndFull() {
        Checks.sentence("16: How many bytes the log has");
        Run.of().due("logged", 0).go("addStep 0 1 0 1").due("logged", 0)
                .go("begin 0").due("logged", 3);
        fullLog().due("logged", 288).refused("begin 3", LoggedSagaDesk.FULL)
                .refused("deliver 0", 0).go("crash 2").due("logged", 252)
                .go("restart 2", "24 * deliver 0").due("logged", 288);
    }

    private static void durableEmptyAndFull() {
        Checks.sentence("17: How many bytes of the log are durable");
        Run.of("addStep 0 1 0 1").due("durable", 0).go("begin 0").due("durable", 0)
                .go("flush 1").due("durable", 1);
        fullLog().due("durable", 252).go("flush 35").due("durable", 287)
                .due("flush 2", 1).due("durable", 288).refused("flush 1", 0)
                .go("crash 2").due("durable", 288).go("restart 2").due("durable", 288);
    }

    private static void durableWithinARecord() {
        Checks.sentence("17: durable bytes that are cut off are not in the log");
        for (int bytes = 0; bytes <= 6; bytes++) {
            Run.of("addStep 0 1 0 1", "2 * begin 0", "flush " + bytes).due("durable", bytes)
                    .due("logged", 6)
                    .go("crash 2").due("durable", bytes).due("logged", bytes)
                    .go("restart 2").due("durable", bytes / 3 * 3).due("logged", bytes / 3 * 3);
        }
    }

    private static void logByteNone() {
        Checks.sentence("18: Byte p of the log, from 0; BAD when there is none");
        Run.of("addStep 3 1 0 1", "begin 3").dueFrom0("logByte", 1, 0, 3)
                .refusedOutside(0, 2, "logByte %", BAD)
                .go("begin 3").dueFrom0("logByte", 1, 0, 3, 1, 1, 3)
                .refusedOutside(0, 5, "logByte %", BAD)
                .go("flush 5", "crash 2").dueFrom0("logByte", 1, 0, 3, 1, 1, BAD)
                .go("restart 2").dueFrom0("logByte", 1, 0, 3, BAD);
    }

    private static void logByteOfEmptyAndFull() {
        Checks.sentence("18: the empty and the full log");
        Run.of("addStep 0 1 0 1").refusedOutside(0, -1, "logByte %", BAD).refused("logByte 1", BAD);
        fullLog().due("logByte 0", 1).due("logByte 1", 0).due("logByte 2", 3)
                .due("logByte 285", 4).due("logByte 286", 11).due("logByte 287", 0)
                .refusedOutside(0, 287, "logByte %", BAD);
    }

    private static void logByteNotDurable() {
        Checks.sentence("18: bytes that are not durable are in the log too");
        Run.of("addStep 2 1 0 1", "2 * begin 2", "flush 4").due("durable", 4)
                .due("logByte 4", 1).due("logByte 5", 2).due("logByte 6", BAD);
    }

    private static void answeredNode() {
        Checks.sentence("19: BAD when node is neither");
        Run.of("addStep 0 2 0 1", "begin 0", "flush 3", "deliver 0")
                .due("answered 0", 0).due("answered 1", 1)
                .refusedOutside(0, 1, "answered %", BAD);
    }

    /** Three GIVEs done and undone: six requests of each saga to the bank, and one SEAT refused. */
    private static void answeredNoneAndMost() {
        Checks.sentence("19: How many different requests the bank or the hall has answered");
        Run.of(LONGEST).due("answered 0", 0).due("answered 1", 0).go("flush 36")
                .due("answered 0", 0).go("deliver 0").due("answered 0", 1).due("answered 1", 0);
        fullLog().due("answered 0", 72).due("answered 1", 12);
    }

    private static void upNode() {
        Checks.sentence("20: false when node is not 0 .. 2");
        Run.of().dueFrom0("up", 1, 1, 1, 0).refusedOutside(0, 2, "up %", 0)
                .go("crash 1").dueFrom0("up", 1, 0, 1).go("crash 0").dueFrom0("up", 0, 0, 1)
                .go("crash 2").dueFrom0("up", 0, 0, 0).refusedOutside(0, 2, "up %", 0)
                .go("restart 2").dueFrom0("up", 0, 0, 1).go("restart 0").dueFrom0("up", 1, 0, 1);
    }
}
