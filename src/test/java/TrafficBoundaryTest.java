/** The boundary cases of the section "Terms": the line, requests and replies. */
public final class TrafficBoundaryTest {
    private static final int BAD = LoggedSagaDesk.BAD;

    public static void main(String[] args) {
        putAtItsEnd();
        putByFlushWhenThereAre24();
        putByResendWhenThereAre24();
        putByRestartWhenThereAre24();
        putOfAReplyWhenThereWere24();
        anyMayBeTheNextToArrive();
        requestGoesWhereItsStepIsDone();
        requestLostHasNotArrived();
        requestAnsweredBeforeIsLostToo();
        sameAnswerYesAgain();
        sameAnswerNoAgain();
        allowedWhenItArrives();
        doingAndUndoingAreTwoRequests();
        keptOutlastsCrashes();
        replyLostWhenTheDeskIsDown();
        replyIgnoredWhenTheSagaDoesNotWait();
        replyIgnoredWhenItIsForAnotherStep();
        replyIgnoredWhenItIsForTheWayForward();
        replyIgnoredWhenTheSagaIsOver();
        Checks.end();
    }

    /** Kind 0 is GIVE 1 and GIVE 2, kind 1 GIVE 3 and a SEAT that is refused. */
    private static Run supplied() {
        return Run.of("addStep 0 1 0 1", "addStep 0 1 1 2", "addStep 1 1 2 3", "addStep 1 2 0 1");
    }

    private static void putAtItsEnd() {
        Checks.sentence("numbered from 0; a new one is put at its end");
        supplied().go("2 * begin 0", "flush 6").dueFrom0("message", 0, 1000, BAD)
                .due("resend 0", 1).dueFrom0("message", 0, 1000, 0, BAD)
                .due("repeat 1", 1).dueFrom0("message", 0, 1000, 0, 1000, BAD)
                .due("deliver 0", 1).dueFrom0("message", 1000, 0, 1000, 20, BAD);
    }

    private static void putByFlushWhenThereAre24() {
        Checks.sentence("but is lost at once when there are 24: flush");
        supplied().go("3 * begin 0", "flush 3", "22 * repeat 0").due("messages", 23)
                .due("flush 3", 3).due("messages", 24).due("message 23", 1000)
                .due("flush 3", 3).due("messages", 24).due("message 23", 1000)
                .due("durable", 9).due("status 2", 1000)
                .go("lose 0").due("resend 2", 1).due("message 23", 2000);
    }

    private static void putByResendWhenThereAre24() {
        Checks.sentence("but is lost at once when there are 24: resend");
        supplied().go("2 * begin 0", "flush 6", "21 * repeat 0").due("messages", 23)
                .due("resend 1", 1).due("messages", 24).due("message 23", 1000)
                .due("resend 0", 1).due("messages", 24).due("message 23", 1000);
    }

    private static void putByRestartWhenThereAre24() {
        Checks.sentence("but is lost at once when there are 24: restart");
        supplied().go("2 * begin 0", "flush 6", "22 * repeat 1", "crash 2").due("messages", 24)
                .due("restart 2", 1).due("messages", 24).due("message 23", 1000)
                .go("crash 2", "lose 0").due("restart 2", 1).due("messages", 24)
                .due("message 22", 1000).due("message 23", 0).due("message 24", BAD);
    }

    private static void putOfAReplyWhenThereWere24() {
        Checks.sentence("and leaves the line then: a reply is not lost when there were 24");
        supplied().go("begin 0", "flush 3", "23 * repeat 0").due("messages", 24)
                .due("deliver 23", 1).due("messages", 24).due("message 23", 20)
                .due("deliver 0", 3).due("messages", 24).due("message 22", 20)
                .due("message 23", 20).due("message 24", BAD);
    }

    private static void anyMayBeTheNextToArrive() {
        Checks.sentence("Any of them may be the next to arrive, and leaves the line then");
        for (int k = 0; k < 12; k++) {
            Run run = supplied().go("12 * begin 0", "flush 36").due("deliver " + k, 1)
                    .due("messages", 12).due("message 11", 1000 * k + 20);
            for (int place = 0; place < 11; place++) {
                run.due("message " + place, 1000 * (place < k ? place : place + 1));
            }
            run.due("deliver 11", 4).due("messages", 11).due("status " + k, 10);
        }
    }

    private static void requestGoesWhereItsStepIsDone() {
        Checks.sentence("requests from the desk to the bank or the hall, whichever does the step");
        int[] otherNode = {1, 1, 0};
        for (int op = 0; op < 3; op++) {
            int node = 1 - otherNode[op];
            Run.of("addStep 0 " + op + " 0 1", "supply 0 0 9", "supply 1 0 9", "begin 0", "flush 3")
                    .go("repeat 0", "crash " + otherNode[op]).due("deliver 0", 1)
                    .due("answered " + node, 1).due("answered " + otherNode[op], 0)
                    .due("amount " + otherNode[op] + " 0", 9)
                    .go("restart " + otherNode[op], "crash " + node).due("deliver 0", 6);
        }
    }

    private static void requestLostHasNotArrived() {
        Checks.sentence("If the same request has arrived there before (and was not lost)");
        supplied().go("begin 0", "flush 3", "repeat 0", "crash 0").due("deliver 0", 6)
                .due("answered 0", 0).due("amount 0 0", 0).dueFrom0("message", 0, BAD)
                .go("restart 0").due("deliver 0", 1).due("answered 0", 1).due("amount 0 0", 1);
    }

    private static void requestAnsweredBeforeIsLostToo() {
        Checks.sentence("A REQUEST that arrives where its node is down is lost");
        supplied().go("begin 0", "flush 3", "repeat 0", "deliver 0", "crash 0")
                .dueFrom0("message", 0, 20, BAD).due("deliver 0", 6).dueFrom0("message", 20, BAD)
                .due("answered 0", 1).due("amount 0 0", 1);
    }

    private static void sameAnswerYesAgain() {
        Checks.sentence("the same answer is sent again: YES, where it would be NO now");
        Run.of("addStep 0 0 0 5", "supply 0 0 5", "begin 0", "flush 3", "repeat 0")
                .due("deliver 0", 1).due("amount 0 0", 0).due("deliver 0", 3)
                .due("amount 0 0", 0).dueFrom0("message", 20, 20, BAD).due("answered 0", 1);
    }

    private static void sameAnswerNoAgain() {
        Checks.sentence("the same answer is sent again: NO, where it would be YES now");
        Run.of("addStep 0 0 0 5", "addStep 1 1 0 5", "begin 0", "begin 1", "flush 6", "repeat 0")
                .due("deliver 0", 2).due("deliver 0", 1).due("amount 0 0", 5).due("deliver 0", 3)
                .due("amount 0 0", 5).dueFrom0("message", 10, 1020, 10, BAD).due("answered 0", 2);
    }

    private static void allowedWhenItArrives() {
        Checks.sentence("to do a step that is allowed now: not when it was sent");
        Run.of("addStep 0 0 0 5", "addStep 1 1 0 5", "2 * begin 0", "begin 1", "flush 9")
                .due("deliver 0", 2).due("deliver 1", 1).due("amount 0 0", 5)
                .due("deliver 0", 1).due("amount 0 0", 0).dueFrom0("message", 10, 2020, 1020, BAD);
        Run.of("addStep 0 2 0 5", "supply 1 0 5", "2 * begin 0", "flush 6")
                .due("deliver 1", 1).due("deliver 0", 2).due("amount 1 0", 0)
                .dueFrom0("message", 1022, 12, BAD);
    }

    private static void doingAndUndoingAreTwoRequests() {
        Checks.sentence("named by the saga, the step, and whether it is to do or to undo");
        supplied().go("2 * begin 1", "flush 6").due("deliver 0", 1).due("deliver 0", 1)
                .due("answered 0", 2).go("2 * deliver 0", "flush 6")
                .due("deliver 0", 2).due("deliver 0", 2).due("answered 1", 2)
                .go("2 * deliver 0", "flush 6").dueFrom0("message", 1, 1001, BAD)
                .due("repeat 0", 1).due("deliver 0", 1).due("amount 0 2", 3)
                .due("deliver 1", 3).due("amount 0 2", 3).due("answered 0", 3)
                .due("deliver 0", 1).due("amount 0 2", 0).due("answered 0", 4);
    }

    private static void keptOutlastsCrashes() {
        Checks.sentence("Amounts, seats and answers that are kept outlast crashes");
        Run.of("addStep 0 1 0 100", "addStep 0 2 0 7", "supply 0 0 900",
                "supply 1 0 7", "begin 0", "flush 3", "repeat 0", "deliver 1", "deliver 1", "flush 3")
                .go("repeat 1").due("deliver 1", 1).due("amount 0 0", 1000).due("amount 1 0", 0)
                .go("crash 0", "crash 1", "crash 2").due("amount 0 0", 1000).due("amount 1 0", 0)
                .due("answered 0", 1).due("answered 1", 1)
                .go("restart 0", "restart 1").due("amount 0 0", 1000).due("amount 1 0", 0)
                .due("deliver 0", 3).due("deliver 0", 3)
                .due("amount 0 0", 1000).due("amount 1 0", 0).due("answered 0", 1)
                .due("answered 1", 1);
    }

    private static void replyLostWhenTheDeskIsDown() {
        Checks.sentence("A REPLY that arrives when the desk is down is lost");
        supplied().go("begin 0", "flush 3", "deliver 0", "repeat 0", "crash 2")
                .due("deliver 0", 6).due("messages", 1).due("logged", 3)
                .go("restart 2", "crash 0", "crash 1").due("deliver 0", 4).due("logged", 6);
    }

    private static void replyIgnoredWhenTheSagaDoesNotWait() {
        Checks.sentence("If its saga waits: not while its last record is not durable");
        for (int bytes = 0; bytes < 3; bytes++) {
            supplied().go("begin 0", "flush 3", "deliver 0", "repeat 0").due("deliver 0", 4)
                    .go("flush " + bytes).due("deliver 0", 5).due("logged", 6).due("messages", 0)
                    .due("status 0", 10);
        }
    }

    private static void replyIgnoredWhenItIsForAnotherStep() {
        Checks.sentence("and it is for the saga's next request: not for an earlier step");
        supplied().go("begin 0", "flush 3", "deliver 0", "repeat 0", "deliver 0", "flush 3")
                .due("status 0", 1010).dueFrom0("message", 20, 100, BAD).due("deliver 0", 5)
                .due("logged", 6).due("status 0", 1010);
        supplied().go("2 * begin 0", "flush 6", "deliver 0").dueFrom0("message", 1000, 20, BAD)
                .due("deliver 1", 4).due("status 0", 10).due("status 1", 1000);
    }

    private static void replyIgnoredWhenItIsForTheWayForward() {
        Checks.sentence("and it is for the saga's next request: to undo the same step, not to do it");
        supplied().go("begin 1", "flush 3", "deliver 0", "repeat 0", "deliver 0", "flush 3")
                .go("deliver 1", "deliver 1", "flush 3").dueFrom0("message", 20, 1, BAD)
                .due("status 0", 1110).due("deliver 0", 5).due("logged", 9).due("status 0", 1110)
                .due("deliver 0", 1).due("message 0", 21).due("deliver 0", 4).due("status 0", 311);
    }

    private static void replyIgnoredWhenTheSagaIsOver() {
        Checks.sentence("If its saga waits: not when it is committed or compensated");
        Run.of("addStep 0 1 0 1", "addStep 1 0 7 1", "begin 0", "begin 1", "flush 6", "2 * deliver 0")
                .go("repeat 0", "repeat 1", "2 * deliver 0", "flush 6")
                .due("status 0", 210).due("status 1", 300).dueFrom0("message", 20, 1010, BAD)
                .due("deliver 0", 5).due("deliver 0", 5).due("logged", 12).due("messages", 0);
    }
}
