/** The boundary cases of promises 6, 7, 8, 14 and 15: deliver, lose, repeat, messages, message. */
public final class LineBoundaryTest {
    private static final int BAD = LoggedSagaDesk.BAD;

    public static void main(String[] args) {
        deliverNoMessage();
        deliverFirstAndLast();
        deliverDoneOrUndone();
        deliverRefused();
        deliverArrivedBefore();
        deliverWritten();
        deliverIgnored();
        deliverLost();
        deliverFullLine();
        loseNone();
        loseFirstAndLast();
        loseDoesNotArrive();
        repeatNone();
        repeatUpTo24();
        repeatFirstAndLast();
        messagesEmptyAndFull();
        messageNone();
        messageOfEmptyAndFull();
        messageSmallestAndLargest();
        Checks.end();
    }

    /** One GIVE of 5 for each saga; the requests 0, 1000 and 2000 are in the line. */
    private static Run threeInLine() {
        return Run.of("addStep 0 1 0 5", "3 * begin 0", "flush 9");
    }

    private static Run fullLine() {
        return threeInLine().go("21 * repeat 1");
    }

    private static void deliverNoMessage() {
        Checks.sentence("6: 0 when there is no message k");
        Run.of("addStep 0 1 0 5").refusedOutside(0, -1, "deliver %", 0);
        threeInLine().refusedOutside(0, 2, "deliver %", 0);
        fullLine().refusedOutside(0, 23, "deliver %", 0);
        threeInLine().go("crash 0", "crash 1", "crash 2").refusedOutside(0, 2, "deliver %", 0);
    }

    private static void deliverFirstAndLast() {
        Checks.sentence("6: Message k of the line arrives");
        threeInLine().due("deliver 2", 1).dueFrom0("message", 0, 1000, 2020, BAD)
                .due("deliver 0", 1).dueFrom0("message", 1000, 2020, 20, BAD)
                .due("deliver 2", 4).dueFrom0("message", 1000, 2020, BAD)
                .due("deliver 0", 1).dueFrom0("message", 2020, 1020, BAD)
                .due("deliver 1", 4).due("deliver 0", 4).due("messages", 0)
                .refused("deliver 0", 0).dueFrom0("status", 210, 210, 210);
    }

    private static void deliverDoneOrUndone() {
        Checks.sentence("6: 1 when it was a request that was done or undone");
        Run.of("addStep 0 1 0 1", "addStep 0 2 0 1", "begin 0", "flush 3")
                .due("deliver 0", 1).due("amount 0 0", 1).due("deliver 0", 4)
                .go("flush 3").due("deliver 0", 2).due("deliver 0", 4)
                .go("flush 3").due("message 0", 1).due("deliver 0", 1).due("amount 0 0", 0);
    }

    private static void deliverRefused() {
        Checks.sentence("6: 2 one that was refused");
        Run.of("addStep 0 2 7 100", "supply 1 7 99", "begin 0", "flush 3").due("deliver 0", 2)
                .due("amount 1 7", 99).due("answered 1", 1).dueFrom0("message", 12, BAD);
    }

    private static void deliverArrivedBefore() {
        Checks.sentence("6: 3 one that had arrived before");
        threeInLine().go("2 * repeat 0").due("deliver 0", 1).due("amount 0 0", 5)
                .dueFrom0("message", 1000, 2000, 0, 0, 20)
                .due("deliver 3", 3).due("deliver 2", 3).due("amount 0 0", 5).due("answered 0", 1)
                .dueFrom0("message", 1000, 2000, 20, 20, 20, BAD);
        Run.of("addStep 0 0 0 1", "begin 0", "flush 3", "repeat 0")
                .due("deliver 0", 2).due("deliver 0", 3).dueFrom0("message", 10, 10, BAD);
    }

    private static void deliverWritten() {
        Checks.sentence("6: 4 a reply for which a record was written");
        threeInLine().go("deliver 2").due("deliver 2", 4).due("logged", 12)
                .due("logByte 9", 2).due("logByte 10", 2).due("logByte 11", 0)
                .due("durable", 9);
    }

    private static void deliverIgnored() {
        Checks.sentence("6: 5 a reply that was ignored");
        threeInLine().go("deliver 0", "repeat 2", "repeat 2").due("deliver 2", 4)
                .due("deliver 2", 5).due("logged", 12).dueFrom0("message", 1000, 2000, 20, BAD)
                .go("flush 3").due("deliver 2", 5).due("logged", 12).due("messages", 2);
    }

    private static void deliverLost() {
        Checks.sentence("6: 6 when it was lost because its node is down");
        Run run = Run.of("addStep 0 1 0 5", "addStep 1 2 0 1", "supply 1 0 9", "begin 0", "begin 1")
                .go("flush 6", "crash 0").due("deliver 0", 6).dueFrom0("message", 1002, BAD)
                .due("amount 0 0", 0).due("answered 0", 0);
        run.due("deliver 0", 1).go("crash 2", "restart 0").due("deliver 0", 6)
                .due("messages", 0).due("logged", 6)
                .go("restart 2", "crash 1").dueFrom0("message", 0, 1002, BAD)
                .due("deliver 1", 6).due("deliver 0", 1).due("deliver 0", 4);
    }

    private static void deliverFullLine() {
        Checks.sentence("6: a request of a full line leaves it before its reply is put");
        fullLine().due("messages", 24).due("deliver 0", 1).due("messages", 24)
                .due("message 0", 1000).due("message 23", 20)
                .due("deliver 22", 1).due("message 22", 20).due("message 23", 1020)
                .due("deliver 23", 4).due("messages", 23);
    }

    private static void loseNone() {
        Checks.sentence("7: Answers whether there was one");
        Run.of("addStep 0 1 0 5").refusedOutside(0, -1, "lose %", 0);
        threeInLine().refusedOutside(0, 2, "lose %", 0);
        fullLine().refusedOutside(0, 23, "lose %", 0);
        threeInLine().go("3 * lose 0").due("messages", 0).refused("lose 0", 0);
    }

    private static void loseFirstAndLast() {
        Checks.sentence("7: Message k leaves the line");
        threeInLine().due("lose 0", 1).dueFrom0("message", 1000, 2000, BAD);
        threeInLine().due("lose 1", 1).dueFrom0("message", 0, 2000, BAD);
        threeInLine().due("lose 2", 1).dueFrom0("message", 0, 1000, BAD);
        fullLine().due("lose 23", 1).due("messages", 23).due("message 22", 1000)
                .due("lose 0", 1).due("messages", 22).due("message 0", 1000)
                .due("message 1", 2000).due("message 21", 1000).due("message 22", BAD);
    }

    private static void loseDoesNotArrive() {
        Checks.sentence("7: without arriving");
        threeInLine().due("lose 0", 1).due("amount 0 0", 0).due("answered 0", 0)
                .due("resend 0", 1).due("deliver 2", 1).due("lose 2", 1).due("logged", 9)
                .due("status 0", 1000);
    }

    private static void repeatNone() {
        Checks.sentence("8: false when there is no message k");
        Run.of("addStep 0 1 0 5").refusedOutside(0, -1, "repeat %", 0);
        threeInLine().refusedOutside(0, 2, "repeat %", 0);
        threeInLine().go("3 * lose 0").refused("repeat 0", 0);
    }

    private static void repeatUpTo24() {
        Checks.sentence("8: false when ... there are 24");
        threeInLine().go("19 * repeat 1").due("messages", 22).due("repeat 2", 1)
                .due("messages", 23).due("repeat 0", 1).due("messages", 24)
                .refused("repeat 0", 0).refused("repeat 23", 0).refusedOutside(0, 23, "repeat %", 0)
                .due("message 22", 2000).due("message 23", 0)
                .go("lose 23").due("repeat 22", 1).due("message 23", 2000).refused("repeat 0", 0);
    }

    private static void repeatFirstAndLast() {
        Checks.sentence("8: A message like message k is put at the end of the line");
        threeInLine().due("repeat 0", 1).due("repeat 3", 1).due("repeat 2", 1)
                .dueFrom0("message", 0, 1000, 2000, 0, 0, 2000, BAD)
                .go("deliver 1").due("repeat 5", 1).dueFrom0("message", 0, 2000, 0, 0, 2000, 1020, 1020);
    }

    private static void messagesEmptyAndFull() {
        Checks.sentence("14: How many messages the line has");
        Run run = Run.of("addStep 0 1 0 5", "begin 0").due("messages", 0).go("flush 3");
        for (int size = 1; size <= 24; size++) {
            run.due("messages", size).go("repeat 0");
        }
        run.due("messages", 24).go("24 * lose 0").due("messages", 0);
    }

    private static void messageNone() {
        Checks.sentence("15: BAD when there is no message k");
        threeInLine().dueFrom0("message", 0, 1000, 2000)
                .refusedOutside(0, 2, "message %", BAD);
    }

    private static void messageOfEmptyAndFull() {
        Checks.sentence("15: the empty and the full line");
        Run.of("addStep 0 1 0 5").refusedOutside(0, -1, "message %", BAD);
        fullLine().due("message 0", 0).due("message 2", 2000).due("message 3", 1000)
                .due("message 23", 1000).refusedOutside(0, 23, "message %", BAD)
                .go("24 * lose 0").due("messages", 0).refused("message 0", BAD);
    }

    /** Saga 0 of the bank's step 0, and saga 11 of the hall's step 3, done and then undone. */
    private static void messageSmallestAndLargest() {
        Checks.sentence("15: 1000 * saga + 100 * step, plus 0, 10 or 20, plus 2, plus 1");
        Run run = Run.of("3 * addStep 0 1 0 1", "addStep 0 2 0 1", "supply 1 0 1", "12 * begin 0")
                .go("flush 36").due("message 0", 0).due("message 11", 11000).go("11 * lose 0");
        int[] forward = {11000, 11020, 11100, 11120, 11200, 11220, 11302, 11322};
        for (int message : forward) {
            run.dueFrom0("message", message, BAD).go("deliver 0", "flush 3");
        }
        run.due("status 11", 240).due("resend 10", 1).go("deliver 0");
        int[] back = {10020, 10100, 10120, 10200, 10220, 10302, 10312, 10201, 10221, 10101, 10121,
            10001, 10021};
        for (int message : back) {
            run.dueFrom0("message", message, BAD).go("deliver 0", "flush 3");
        }
        run.due("status 10", 333).due("messages", 0);
    }
}
