/** Promises 12, 13 and 16 to 20: amount, status, logged, durable, logByte, answered, up. */
public final class ReadingPromisesTest {
    private static final int[] OUTSIDE = {-1, Integer.MIN_VALUE, Integer.MAX_VALUE};

    public static void main(String[] args) {
        amount();
        statusForward();
        statusBack();
        statusWrong();
        loggedAndDurable();
        logFilledToItsLastByte();
        logByteWrong();
        answered();
        up();
        readingChangesNothing();
        Checks.end();
    }

    private static void amount() {
        LoggedSagaDesk desk = new LoggedSagaDesk();
        for (int thing = 0; thing < 8; thing++) {
            desk.supply(0, thing, 1 + thing);
            desk.supply(1, thing, 11 + thing);
        }
        for (int thing = 0; thing < 8; thing++) {
            Checks.due("amount(0, " + thing + ")", desk.amount(0, thing), 1 + thing);
            Checks.due("amount(1, " + thing + ")", desk.amount(1, thing), 11 + thing);
            Checks.due("amount(2, " + thing + ")", desk.amount(2, thing), 0);
        }
        for (int wrong : OUTSIDE) {
            Checks.due("amount(" + wrong + ", 0)", desk.amount(wrong, 0), 0);
            Checks.due("amount(0, " + wrong + ")", desk.amount(0, wrong), 0);
        }
        Checks.due("amount(0, 8)", desk.amount(0, 8), 0);
        Checks.due("amount(1, 8)", desk.amount(1, 8), 0);
        desk.crash(0);
        Checks.due("also while the bank is down", desk.amount(0, 0), 1);
    }

    private static LoggedSagaDesk fourSteps(int refusedStep) {
        LoggedSagaDesk desk = new LoggedSagaDesk();
        for (int step = 0; step < 4; step++) {
            desk.addStep(2, step == refusedStep ? 2 : 1, step, 1 + step);
        }
        desk.begin(2);
        return desk;
    }

    private static void statusForward() {
        LoggedSagaDesk desk = fourSteps(4);
        for (int done = 0; done < 4; done++) {
            Checks.due("not durable", desk.status(0), 10 * done);
            desk.flush(2);
            Checks.due("not wholly durable", desk.status(0), 10 * done);
            desk.flush(1);
            Checks.due("it waits", desk.status(0), 1000 + 10 * done);
            desk.deliver(0);
            Checks.due("it waits still", desk.status(0), 1000 + 10 * done);
            desk.deliver(0);
        }
        Checks.due("committed", desk.status(0), 240);
        desk.flush(3);
        Checks.due("committed", desk.status(0), 240);
    }

    private static void statusBack() {
        for (int refused = 0; refused < 4; refused++) {
            LoggedSagaDesk desk = fourSteps(refused);
            for (int i = 0; i <= refused; i++) {
                desk.flush(3);
                desk.deliver(0);
                desk.deliver(0);
            }
            for (int undone = 0; undone < refused; undone++) {
                int want = 100 + 10 * refused + undone;
                Checks.due("not durable", desk.status(0), want);
                desk.flush(3);
                Checks.due("it waits", desk.status(0), 1000 + want);
                Checks.due("backwards", desk.message(0), 100 * (refused - undone - 1) + 1);
                desk.deliver(0);
                desk.deliver(0);
            }
            Checks.due("compensated", desk.status(0), 300 + 11 * refused);
            desk.flush(3);
            Checks.due("compensated", desk.status(0), 300 + 11 * refused);
            for (int thing = 0; thing < 4; thing++) {
                Checks.due("nothing is left of it", desk.amount(0, thing), 0);
            }
        }
    }

    private static void statusWrong() {
        LoggedSagaDesk desk = fourSteps(4);
        for (int wrong : OUTSIDE) {
            Checks.due("status(" + wrong + ")", desk.status(wrong), LoggedSagaDesk.BAD);
        }
        for (int saga = 1; saga <= 12; saga++) {
            Checks.due("status(" + saga + ")", desk.status(saga), LoggedSagaDesk.BAD);
        }
        desk.crash(2);
        Checks.due("lost with its START", desk.status(0), LoggedSagaDesk.BAD);
    }

    /** Twelve sagas of the longest kind: three steps done, the fourth refused. */
    private static LoggedSagaDesk twelveLongSagas() {
        LoggedSagaDesk desk = new LoggedSagaDesk();
        for (int step = 0; step < 4; step++) {
            desk.addStep(1, step == 3 ? 2 : 1, step, 1);
        }
        for (int saga = 0; saga < 12; saga++) {
            desk.begin(1);
        }
        return desk;
    }

    private static void flushAndDeliverAll(LoggedSagaDesk desk) {
        desk.flush(36);
        for (int i = 0; i < 24; i++) {
            desk.deliver(0);
        }
    }

    private static void loggedAndDurable() {
        LoggedSagaDesk desk = twelveLongSagas();
        for (int record = 0; record < 8; record++) {
            Checks.due("logged()", desk.logged(), 36 * record + 36);
            Checks.due("durable()", desk.durable(), 36 * record);
            flushAndDeliverAll(desk);
            Checks.due("durable()", desk.durable(), 36 * record + 36);
        }
        for (int saga = 0; saga < 12; saga++) {
            Checks.due("status(" + saga + ")", desk.status(saga), 333);
        }
        Checks.due("logged()", desk.logged(), 288);
        Checks.due("logByte(287)", desk.logByte(287), 0);
        Checks.due("logByte(288)", desk.logByte(288), LoggedSagaDesk.BAD);
        Checks.due("FULL", desk.begin(1), LoggedSagaDesk.FULL);
    }

    private static void logFilledToItsLastByte() {
        LoggedSagaDesk desk = twelveLongSagas();
        for (int record = 0; record < 8; record++) {
            flushAndDeliverAll(desk);
        }
        int[] types = {1, 2, 2, 2, 3, 4, 4, 4};
        int[] values = {1, 0, 1, 2, 3, 2, 1, 0};
        for (int p = 0; p < 288; p += 3) {
            Checks.due("type at " + p, desk.logByte(p), types[p / 36]);
            Checks.due("saga at " + p, desk.logByte(p + 1), p % 36 / 3);
            Checks.due("value at " + p, desk.logByte(p + 2), values[p / 36]);
        }
    }

    private static void logByteWrong() {
        LoggedSagaDesk desk = new LoggedSagaDesk();
        Checks.due("an empty log", desk.logByte(0), LoggedSagaDesk.BAD);
        desk.addStep(3, 0, 0, 1);
        desk.begin(3);
        Checks.due("bytes that are not durable too", desk.logByte(2), 3);
        Checks.due("logByte(3)", desk.logByte(3), LoggedSagaDesk.BAD);
        for (int wrong : OUTSIDE) {
            Checks.due("logByte(" + wrong + ")", desk.logByte(wrong), LoggedSagaDesk.BAD);
        }
        desk.flush(2);
        desk.crash(2);
        Checks.due("also while the desk is down", desk.logByte(1), 0);
        Checks.due("logByte(2)", desk.logByte(2), LoggedSagaDesk.BAD);
        desk.restart(2);
        Checks.due("cut off", desk.logByte(0), LoggedSagaDesk.BAD);
    }

    private static void answered() {
        LoggedSagaDesk desk = new LoggedSagaDesk();
        desk.addStep(0, 1, 0, 1);
        desk.addStep(0, 2, 0, 1);
        desk.begin(0);
        desk.flush(3);
        desk.repeat(0);
        desk.repeat(0);
        int[] answers = {1, 3, 3};
        for (int answer : answers) {
            Checks.due("deliver(0)", desk.deliver(0), answer);
            Checks.due("answered(0)", desk.answered(0), 1);
        }
        desk.deliver(0);
        desk.flush(3);
        desk.deliver(2);
        Checks.due("NO counts as well", desk.answered(1), 1);
        desk.deliver(2);
        desk.flush(3);
        desk.deliver(2);
        Checks.due("to undo is another request", desk.answered(0), 2);
        desk.crash(0);
        Checks.due("also while the bank is down", desk.answered(0), 2);
        Checks.due("answered(2)", desk.answered(2), LoggedSagaDesk.BAD);
        for (int wrong : OUTSIDE) {
            Checks.due("answered(" + wrong + ")", desk.answered(wrong), LoggedSagaDesk.BAD);
        }
    }

    private static void up() {
        LoggedSagaDesk desk = new LoggedSagaDesk();
        for (int node = 0; node < 3; node++) {
            Checks.due("up(" + node + ")", desk.up(node), true);
            desk.crash(node);
            Checks.due("up(" + node + ")", desk.up(node), false);
            desk.restart(node);
            Checks.due("up(" + node + ")", desk.up(node), true);
        }
        Checks.due("up(3)", desk.up(3), false);
        for (int wrong : OUTSIDE) {
            Checks.due("up(" + wrong + ")", desk.up(wrong), false);
        }
    }

    private static void readingChangesNothing() {
        LoggedSagaDesk desk = fourSteps(2);
        desk.flush(3);
        desk.deliver(0);
        String first = Snapshot.of(desk);
        Checks.due("the same twice", Snapshot.of(desk), first);
    }
}
