/** The boundary cases of promises 5, 9, 10 and 11: flush, resend, crash, restart. */
public final class DeskBoundaryTest {
    private static final int BAD = LoggedSagaDesk.BAD;

    public static void main(String[] args) {
        flushLessThanOne();
        flushNone();
        flushWhileDown();
        flushUpToN();
        flushFromTheFirstThatIsNot();
        flushLastByteOfARecord();
        flushInOrderOfRecords();
        flushNothingToSend();
        flushTwelve();
        resendNoSuchSaga();
        resendDown();
        resendDoesNotWait();
        resendOfOneThatIsOver();
        resendFullLine();
        crashNode();
        crashOfOneThatIsDown();
        crashLosesNothingDurable();
        crashLosesAll();
        crashOfServiceLosesNothing();
        restartNode();
        restartOfOneThatIsUp();
        restartCutsOff();
        restartSendsNothing();
        restartSendsTwelve();
        restartFullLine();
        Checks.end();
    }

    /** Kind 0 is TAKE 10 and SEAT 1, kind 1 GIVE 5, kind 2 a TAKE that is refused. */
    private static Run supplied() {
        return Run.of("addStep 0 0 0 10", "addStep 0 2 0 1", "addStep 1 1 1 5", "addStep 2 0 7 1",
                "supply 0 0 1000", "supply 1 0 12");
    }

    private static void flushLessThanOne() {
        Checks.sentence("5: 0 when n is less than 1");
        int[] less = {0, -1, -3, -256, Integer.MIN_VALUE, Integer.MIN_VALUE + 1};
        Run run = supplied().go("2 * begin 0", "flush 2");
        for (int n : less) {
            run.refused("flush " + n, 0);
        }
        run.due("flush 1", 1).due("durable", 3);
    }

    private static void flushNone() {
        Checks.sentence("5: 0 when ... there is none");
        int[] more = {1, 3, 288, Integer.MAX_VALUE};
        Run empty = supplied();
        Run durable = supplied().go("begin 0").due("flush 3", 3);
        for (int n : more) {
            empty.refused("flush " + n, 0);
            durable.refused("flush " + n, 0);
        }
    }

    private static void flushWhileDown() {
        Checks.sentence("5: 0 when there is none, as a desk that is down has none");
        supplied().go("2 * begin 0", "flush 4", "crash 2").refused("flush 1", 0)
                .refused("flush " + Integer.MAX_VALUE, 0)
                .go("restart 2").refused("flush 1", 0);
    }

    private static void flushUpToN() {
        Checks.sentence("5: Up to n bytes more of the log become durable");
        int[] n = {1, 2, 5, 6, 7, 256, 65536, Integer.MAX_VALUE};
        int[] answer = {1, 2, 5, 6, 6, 6, 6, 6};
        for (int i = 0; i < n.length; i++) {
            supplied().go("2 * begin 0").due("flush " + n[i], answer[i])
                    .due("durable", answer[i]).due("logged", 6).due("messages", answer[i] / 3);
        }
    }

    private static void flushFromTheFirstThatIsNot() {
        Checks.sentence("5: from the first one on that is not");
        supplied().go("begin 0", "begin 1").due("flush 2", 2).due("status 0", 0)
                .due("flush 1", 1).due("status 0", 1000).due("status 1", 0)
                .due("flush 2", 2).due("status 1", 0).due("messages", 1)
                .due("flush 2", 1).due("status 1", 1000).due("messages", 2);
    }

    private static void flushLastByteOfARecord() {
        Checks.sentence("5: for each record of which they are the last byte");
        supplied().go("4 * begin 0").due("flush 2", 2).due("messages", 0)
                .due("flush 6", 6).dueFrom0("message", 0, 1000, BAD)
                .due("flush 1", 1).dueFrom0("message", 0, 1000, 2000, BAD)
                .due("flush 2", 2).due("messages", 3)
                .due("flush 1", 1).due("message 3", 3000);
    }

    private static void flushInOrderOfRecords() {
        Checks.sentence("5: in their order");
        supplied().go("3 * begin 0", "flush 9", "deliver 2", "deliver 2", "begin 1")
                .go("deliver 0", "deliver 1").due("logged", 18).due("flush 9", 9)
                .dueFrom0("message", 1000, 2102, 3000, 102, BAD);
    }

    private static void flushNothingToSend() {
        Checks.sentence("5: the request is sent that is to be sent then");
        supplied().go("begin 1", "begin 2", "flush 6", "4 * deliver 0").due("messages", 0)
                .due("status 0", 210).due("status 1", 300)
                .due("flush 6", 6).due("messages", 0);
    }

    private static void flushTwelve() {
        Checks.sentence("5: of twelve sagas, into a line of 23");
        supplied().go("12 * begin 0", "flush 3", "22 * repeat 0").due("messages", 23)
                .due("flush 33", 33).due("messages", 24).due("message 23", 1000)
                .due("status 2", 1000).due("status 11", 1000);
    }

    private static void resendNoSuchSaga() {
        Checks.sentence("9: false when ... there is no such saga");
        supplied().refusedOutside(0, -1, "resend %", 0)
                .go("begin 0", "flush 3").refusedOutside(0, 0, "resend %", 0)
                .due("resend 0", 1).due("messages", 2);
        supplied().go("12 * begin 0", "flush 36").refusedOutside(0, 11, "resend %", 0)
                .due("resend 0", 1).due("resend 11", 1).due("message 12", 0)
                .due("message 13", 11000);
    }

    private static void resendDown() {
        Checks.sentence("9: false when the desk is down");
        supplied().go("begin 0", "flush 3", "crash 2").due("status 0", 1000)
                .refused("resend 0", 0).refused("resend 1", 0)
                .go("restart 2", "crash 0", "crash 1").due("resend 0", 1);
    }

    private static void resendDoesNotWait() {
        Checks.sentence("9: or it doesn't wait");
        supplied().go("begin 0").refused("resend 0", 0).go("flush 2").refused("resend 0", 0)
                .go("flush 1", "deliver 0", "deliver 0").due("status 0", 10)
                .refused("resend 0", 0).go("flush 2").refused("resend 0", 0)
                .go("flush 1", "lose 0").due("resend 0", 1).dueFrom0("message", 102, BAD);
    }

    private static void resendOfOneThatIsOver() {
        Checks.sentence("9: one that is committed or compensated doesn't wait");
        supplied().go("begin 1", "begin 2", "flush 6", "4 * deliver 0")
                .refused("resend 0", 0).refused("resend 1", 0)
                .go("flush 6").due("status 0", 210).due("status 1", 300)
                .refused("resend 0", 0).refused("resend 1", 0);
    }

    private static void resendFullLine() {
        Checks.sentence("9: answers true (also if it is lost at once, since there are 24 messages)");
        supplied().go("begin 0", "begin 1", "flush 6", "21 * repeat 0").due("messages", 23)
                .due("resend 1", 1).due("messages", 24).due("message 23", 1000)
                .due("resend 0", 1).due("messages", 24).due("message 23", 1000)
                .due("message 0", 0).due("message 24", BAD);
    }

    private static void crashNode() {
        Checks.sentence("10: false when node is not 0 .. 2");
        supplied().go("begin 0", "flush 2").refusedOutside(0, 2, "crash %", 0)
                .due("crash 0", 1).dueFrom0("up", 0, 1, 1)
                .due("crash 2", 1).dueFrom0("up", 0, 1, 0)
                .due("crash 1", 1).dueFrom0("up", 0, 0, 0)
                .refusedOutside(0, 2, "crash %", 0);
    }

    private static void crashOfOneThatIsDown() {
        Checks.sentence("10: false when ... it is down");
        for (int node = 0; node < 3; node++) {
            supplied().go("begin 0", "begin 1", "flush 4").due("crash " + node, 1)
                    .refused("crash " + node, 0).go("restart " + node)
                    .due("crash " + node, 1);
        }
    }

    private static void crashLosesNothingDurable() {
        Checks.sentence("10: loses the bytes that are not durable then, when there are none");
        supplied().due("crash 2", 1).due("logged", 0).go("restart 2")
                .go("begin 0", "flush 3").due("crash 2", 1).due("logged", 3).due("durable", 3)
                .dueFrom0("logByte", 1, 0, 0, BAD).due("status 0", 1000).due("messages", 1);
    }

    private static void crashLosesAll() {
        Checks.sentence("10: loses the bytes that are not durable then, when none is durable");
        supplied().go("12 * begin 0").due("logged", 36).due("crash 2", 1).due("logged", 0)
                .due("durable", 0).due("status 0", BAD).due("logByte 0", BAD)
                .go("restart 2").due("begin 1", 0).dueFrom0("logByte", 1, 0, 1, BAD);
    }

    private static void crashOfServiceLosesNothing() {
        Checks.sentence("10: the desk's log loses bytes when the desk crashes alone");
        supplied().go("2 * begin 0", "flush 4").due("crash 0", 1).due("crash 1", 1)
                .due("logged", 6).due("durable", 4).due("amount 0 0", 1000).due("amount 1 0", 12)
                .due("messages", 1);
    }

    private static void restartNode() {
        Checks.sentence("11: false when node is not 0 .. 2");
        supplied().go("begin 0", "flush 3", "crash 0", "crash 1", "crash 2")
                .refusedOutside(0, 2, "restart %", 0)
                .due("restart 0", 1).dueFrom0("up", 1, 0, 0)
                .due("restart 2", 1).dueFrom0("up", 1, 0, 1)
                .due("restart 1", 1).dueFrom0("up", 1, 1, 1)
                .refusedOutside(0, 2, "restart %", 0);
    }

    private static void restartOfOneThatIsUp() {
        Checks.sentence("11: false when ... it is up");
        for (int node = 0; node < 3; node++) {
            supplied().refused("restart " + node, 0)
                    .go("2 * begin 0", "flush 4").refused("restart " + node, 0)
                    .go("crash " + node).due("restart " + node, 1)
                    .refused("restart " + node, 0);
        }
    }

    private static void restartCutsOff() {
        Checks.sentence("11: cuts off the bytes at the end of its log that are not a whole record");
        for (int bytes = 0; bytes <= 6; bytes++) {
            int whole = bytes / 3;
            supplied().go("2 * begin 0", "flush " + bytes, "crash 2", "24 * lose 0")
                    .due("logged", bytes).due("restart 2", 1)
                    .due("logged", 3 * whole).due("durable", 3 * whole)
                    .due("messages", whole).due("begin 1", whole)
                    .due("logByte " + 3 * whole, 1).due("logged", 3 * whole + 3);
        }
    }

    private static void restartSendsNothing() {
        Checks.sentence("11: sends the next request of every saga that waits, when none does");
        supplied().go("crash 2").due("restart 2", 1).due("messages", 0)
                .go("begin 1", "begin 2", "flush 6", "4 * deliver 0", "flush 6", "crash 2")
                .due("restart 2", 1).due("messages", 0).due("status 0", 210).due("status 1", 300);
        supplied().go("begin 0", "flush 3", "begin 0", "flush 1", "crash 0", "crash 1")
                .due("restart 0", 1).due("restart 1", 1).due("messages", 1).due("logged", 6);
    }

    private static void restartSendsTwelve() {
        Checks.sentence("11: in the order of their numbers");
        Run run = supplied().go("12 * begin 0", "flush 36", "deliver 11", "deliver 11", "deliver 0")
                .go("deliver 10", "flush 6", "crash 2", "24 * lose 0").due("restart 2", 1)
                .due("messages", 12);
        for (int saga = 0; saga < 12; saga++) {
            run.due("message " + saga, 1000 * saga + (saga == 0 || saga == 11 ? 102 : 0));
        }
    }

    private static void restartFullLine() {
        Checks.sentence("11: into a line of 21, 23 and 24");
        int[] rooms = {3, 1, 0};
        for (int room : rooms) {
            Run run = supplied().go("3 * begin 0", "flush 9", "21 * repeat 0", "crash 2")
                    .go(room + " * lose 0").due("messages", 24 - room)
                    .due("restart 2", 1).due("messages", 24);
            for (int saga = 0; saga < room; saga++) {
                run.due("message " + (24 - room + saga), 1000 * saga);
            }
        }
    }
}
