/** Promises 5, 9, 10 and 11: flush, resend, crash, restart. */
public final class DeskPromisesTest {
    private static final int[] OUTSIDE = {-1, Integer.MIN_VALUE, Integer.MAX_VALUE};

    public static void main(String[] args) {
        flushByteByByte();
        flushMany();
        flushNothing();
        flushSendsInOrderOfRecords();
        flushOfLastRecordSendsNothing();
        flushIntoFullLine();
        resend();
        resendWrong();
        resendIntoFullLine();
        crashOfDesk();
        crashOfService();
        crashWrong();
        crashGivesBackHowSagasStood();
        restartCutsTornRecord();
        restartSendsInOrderOfNumbers();
        restartOfService();
        restartWrong();
        restartIntoFullLine();
        Checks.end();
    }

    /** Kind 0: TAKE 10 from account 0, then SEAT 1 in room 0; kind 1: GIVE 5 to account 1. */
    private static LoggedSagaDesk supplied() {
        LoggedSagaDesk desk = new LoggedSagaDesk();
        desk.addStep(0, 0, 0, 10);
        desk.addStep(0, 2, 0, 1);
        desk.addStep(1, 1, 1, 5);
        desk.supply(0, 0, 1000);
        desk.supply(1, 0, 2);
        return desk;
    }

    private static void fillLine(LoggedSagaDesk desk) {
        for (int i = 0; i < 24; i++) {
            desk.repeat(0);
        }
        Checks.due("the line is full", desk.messages(), 24);
    }

    private static void flushByteByByte() {
        LoggedSagaDesk desk = supplied();
        desk.begin(0);
        for (int bytes = 1; bytes <= 3; bytes++) {
            Checks.due("does it wait", desk.status(0), 0);
            Checks.due("flush(1)", desk.flush(1), 1);
            Checks.due("durable()", desk.durable(), bytes);
            Checks.due("messages()", desk.messages(), bytes / 3);
        }
        Checks.due("it waits", desk.status(0), 1000);
        Checks.due("logged()", desk.logged(), 3);
    }

    private static void flushMany() {
        LoggedSagaDesk desk = supplied();
        desk.begin(0);
        desk.begin(0);
        desk.begin(0);
        Checks.due("flush(4)", desk.flush(4), 4);
        Checks.due("messages()", desk.messages(), 1);
        Checks.due("flush(MAX)", desk.flush(Integer.MAX_VALUE), 5);
        Checks.due("durable()", desk.durable(), 9);
        Checks.due("messages()", desk.messages(), 3);
    }

    private static void flushNothing() {
        LoggedSagaDesk desk = supplied();
        desk.begin(0);
        String before = Snapshot.of(desk);
        Checks.due("flush(0)", desk.flush(0), 0);
        for (int wrong : new int[] {-1, -3, Integer.MIN_VALUE}) {
            Checks.due("flush(" + wrong + ")", desk.flush(wrong), 0);
        }
        Checks.due("nothing was changed", Snapshot.of(desk), before);
        desk.flush(3);
        before = Snapshot.of(desk);
        Checks.due("all is durable", desk.flush(3), 0);
        Checks.due("nothing was changed", Snapshot.of(desk), before);
        desk.begin(0);
        desk.flush(1);
        desk.crash(2);
        Checks.due("the desk is down", desk.flush(3), 0);
        Checks.due("durable()", desk.durable(), 4);
    }

    private static void flushSendsInOrderOfRecords() {
        LoggedSagaDesk desk = supplied();
        desk.begin(0);
        desk.begin(0);
        desk.flush(6);
        desk.deliver(1);
        desk.deliver(1);
        desk.begin(1);
        desk.deliver(0);
        desk.deliver(0);
        Checks.due("logged()", desk.logged(), 15);
        Checks.due("flush(9)", desk.flush(9), 9);
        Checks.due("messages()", desk.messages(), 3);
        Checks.due("DONE of saga 1 is first", desk.message(0), 1102);
        Checks.due("then START of saga 2", desk.message(1), 2000);
        Checks.due("then DONE of saga 0", desk.message(2), 102);
    }

    private static void flushOfLastRecordSendsNothing() {
        LoggedSagaDesk desk = new LoggedSagaDesk();
        desk.addStep(0, 1, 0, 1);
        desk.addStep(1, 0, 7, 1);
        desk.begin(0);
        desk.begin(1);
        desk.flush(6);
        desk.deliver(0);
        desk.deliver(0);
        desk.deliver(0);
        desk.deliver(0);
        Checks.due("flush(6)", desk.flush(6), 6);
        Checks.due("committed", desk.status(0), 210);
        Checks.due("compensated", desk.status(1), 300);
        Checks.due("messages()", desk.messages(), 0);
    }

    private static void flushIntoFullLine() {
        LoggedSagaDesk desk = supplied();
        desk.begin(0);
        desk.flush(3);
        fillLine(desk);
        desk.begin(1);
        Checks.due("flush(3)", desk.flush(3), 3);
        Checks.due("the request is lost", desk.messages(), 24);
        Checks.due("none is of saga 1", desk.message(23), 0);
        Checks.due("saga 1 waits", desk.status(1), 1000);
    }

    private static void resend() {
        LoggedSagaDesk desk = supplied();
        desk.begin(0);
        Checks.due("not durable", desk.resend(0), false);
        desk.flush(2);
        Checks.due("not wholly durable", desk.resend(0), false);
        desk.flush(1);
        Checks.due("it waits", desk.resend(0), true);
        Checks.due("messages()", desk.messages(), 2);
        Checks.due("message(1)", desk.message(1), 0);
        desk.deliver(0);
        desk.deliver(1);
        Checks.due("DONE is not durable", desk.resend(0), false);
        desk.flush(3);
        Checks.due("it waits", desk.resend(0), true);
        Checks.due("message(2)", desk.message(2), 102);
        desk.deliver(1);
        desk.deliver(2);
        desk.flush(3);
        Checks.due("committed", desk.resend(0), false);
    }

    private static void resendWrong() {
        LoggedSagaDesk desk = supplied();
        Checks.due("no sagas", desk.resend(0), false);
        desk.begin(0);
        desk.flush(3);
        String before = Snapshot.of(desk);
        for (int wrong : OUTSIDE) {
            Checks.due("resend(" + wrong + ")", desk.resend(wrong), false);
        }
        for (int saga = 1; saga <= 12; saga++) {
            Checks.due("resend(" + saga + ")", desk.resend(saga), false);
        }
        Checks.due("nothing was changed", Snapshot.of(desk), before);
        desk.crash(2);
        Checks.due("it waits", desk.status(0), 1000);
        Checks.due("but the desk is down", desk.resend(0), false);
        Checks.due("messages()", desk.messages(), 1);
    }

    private static void resendIntoFullLine() {
        LoggedSagaDesk desk = supplied();
        desk.begin(0);
        desk.flush(3);
        fillLine(desk);
        Checks.due("lost at once", desk.resend(0), true);
        Checks.due("messages()", desk.messages(), 24);
    }

    private static void crashOfDesk() {
        LoggedSagaDesk desk = supplied();
        desk.begin(0);
        desk.begin(1);
        desk.begin(0);
        desk.flush(4);
        Checks.due("crash(2)", desk.crash(2), true);
        Checks.due("up(2)", desk.up(2), false);
        Checks.due("the others are up", desk.up(0) && desk.up(1), true);
        Checks.due("logged()", desk.logged(), 4);
        Checks.due("durable()", desk.durable(), 4);
        Checks.due("logByte(3)", desk.logByte(3), 1);
        Checks.due("logByte(4)", desk.logByte(4), LoggedSagaDesk.BAD);
        Checks.due("status(0)", desk.status(0), 1000);
        Checks.due("status(1)", desk.status(1), LoggedSagaDesk.BAD);
        Checks.due("the line stays", desk.messages(), 1);
        Checks.due("it is down", desk.crash(2), false);
    }

    private static void crashOfService() {
        LoggedSagaDesk desk = supplied();
        desk.begin(0);
        desk.flush(3);
        desk.deliver(0);
        desk.deliver(0);
        for (int node = 0; node < 2; node++) {
            Checks.due("crash(" + node + ")", desk.crash(node), true);
            Checks.due("up(" + node + ")", desk.up(node), false);
            Checks.due("it is down", desk.crash(node), false);
            Checks.due("the log stays", desk.logged(), 6);
        }
        Checks.due("the desk is up", desk.up(2), true);
        Checks.due("amounts stay", desk.amount(0, 0), 990);
        Checks.due("seats stay", desk.amount(1, 0), 2);
        Checks.due("answers stay", desk.answered(0), 1);
        desk.restart(0);
        desk.crash(2);
        desk.restart(2);
        Checks.due("the same request once more", desk.deliver(0), 3);
        Checks.due("amounts stay", desk.amount(0, 0), 990);
    }

    private static void crashWrong() {
        LoggedSagaDesk desk = supplied();
        desk.begin(0);
        String before = Snapshot.of(desk);
        Checks.due("crash(3)", desk.crash(3), false);
        for (int wrong : OUTSIDE) {
            Checks.due("crash(" + wrong + ")", desk.crash(wrong), false);
        }
        Checks.due("nothing was changed", Snapshot.of(desk), before);
    }

    /** A saga whose TAKE is done and whose SEAT is refused, each record lost once in a crash. */
    private static void crashGivesBackHowSagasStood() {
        LoggedSagaDesk desk = supplied();
        desk.addStep(2, 1, 2, 7);
        desk.addStep(2, 2, 5, 1);
        desk.begin(2);
        desk.flush(3);
        int[] written = {10, 110, 311};
        int[] before = {1000, 1010, 1110};
        for (int i = 0; i < 3; i++) {
            desk.deliver(0);
            Checks.due("a record is written", desk.deliver(0), 4);
            Checks.due("status(0)", desk.status(0), written[i]);
            desk.flush(2);
            Checks.due("it does not wait", desk.status(0), written[i]);
            desk.crash(2);
            Checks.due("the torn record does not count", desk.status(0), before[i]);
            desk.restart(2);
            Checks.due("status(0)", desk.status(0), before[i]);
            Checks.due("the same request again", desk.deliver(0), 3);
            Checks.due("the same reply again", desk.deliver(0), 4);
            Checks.due("status(0)", desk.status(0), written[i]);
            Checks.due("flush(3)", desk.flush(3), 3);
        }
        Checks.due("undone once", desk.amount(0, 2), 0);
    }

    private static void restartCutsTornRecord() {
        for (int torn = 0; torn < 3; torn++) {
            LoggedSagaDesk desk = supplied();
            desk.begin(0);
            desk.begin(0);
            desk.flush(3 + torn);
            desk.crash(2);
            Checks.due("logged()", desk.logged(), 3 + torn);
            Checks.due("restart(2)", desk.restart(2), true);
            Checks.due("up(2)", desk.up(2), true);
            Checks.due("logged()", desk.logged(), 3);
            Checks.due("durable()", desk.durable(), 3);
            Checks.due("begin(1)", desk.begin(1), 1);
            Checks.due("logByte(3)", desk.logByte(3), 1);
            Checks.due("logged()", desk.logged(), 6);
            Checks.due("durable()", desk.durable(), 3);
        }
    }

    private static void restartSendsInOrderOfNumbers() {
        LoggedSagaDesk desk = supplied();
        desk.begin(0);
        desk.begin(1);
        desk.begin(0);
        desk.begin(0);
        desk.flush(12);
        desk.deliver(1);
        desk.deliver(3);
        desk.deliver(2);
        desk.deliver(2);
        desk.flush(6);
        Checks.due("messages()", desk.messages(), 3);
        desk.crash(2);
        desk.lose(0);
        desk.lose(0);
        desk.lose(0);
        Checks.due("restart(2)", desk.restart(2), true);
        Checks.due("saga 1 is committed", desk.messages(), 3);
        Checks.due("message(0)", desk.message(0), 0);
        Checks.due("message(1)", desk.message(1), 2000);
        Checks.due("message(2)", desk.message(2), 3102);
    }

    private static void restartOfService() {
        LoggedSagaDesk desk = supplied();
        desk.begin(0);
        desk.flush(3);
        desk.begin(0);
        desk.flush(1);
        for (int node = 0; node < 2; node++) {
            desk.crash(node);
            Checks.due("restart(" + node + ")", desk.restart(node), true);
            Checks.due("up(" + node + ")", desk.up(node), true);
            Checks.due("the desk sends nothing", desk.messages(), 1);
            Checks.due("the log stays", desk.logged(), 6);
            Checks.due("durable()", desk.durable(), 4);
        }
    }

    private static void restartWrong() {
        LoggedSagaDesk desk = supplied();
        desk.begin(0);
        desk.flush(3);
        desk.begin(0);
        desk.flush(1);
        String before = Snapshot.of(desk);
        for (int node = 0; node < 3; node++) {
            Checks.due("it is up", desk.restart(node), false);
        }
        Checks.due("restart(3)", desk.restart(3), false);
        for (int wrong : OUTSIDE) {
            Checks.due("restart(" + wrong + ")", desk.restart(wrong), false);
        }
        Checks.due("nothing was changed", Snapshot.of(desk), before);
    }

    private static void restartIntoFullLine() {
        LoggedSagaDesk desk = supplied();
        desk.begin(0);
        desk.begin(0);
        desk.flush(6);
        fillLine(desk);
        desk.lose(0);
        desk.crash(2);
        Checks.due("restart(2)", desk.restart(2), true);
        Checks.due("one fits", desk.messages(), 24);
        Checks.due("that of saga 0", desk.message(23), 0);
    }
}
