/** Promises 6, 7, 8, 14 and 15: deliver, lose, repeat, messages, message. */
public final class LinePromisesTest {
    private static final int[] OUTSIDE = {-1, Integer.MIN_VALUE, Integer.MAX_VALUE};
    private static final int TAKE = 0;
    private static final int GIVE = 1;
    private static final int SEAT = 2;

    public static void main(String[] args) {
        takeAllowedAtItsEdge();
        giveAllowedAtItsEdge();
        seatAllowedAtItsEdge();
        undoIsAlwaysAllowed();
        noIsKept();
        requestLostWhereNodeIsDown();
        replyLostWhereDeskIsDown();
        replyIgnored();
        lateRequestAfterUndo();
        sameStepOfTwoSagas();
        deliverWrong();
        deliverInFullLine();
        lose();
        repeat();
        messageOfEveryShape();
        Checks.end();
    }

    private static LoggedSagaDesk oneStep(int op, int amount, int supplied) {
        LoggedSagaDesk desk = new LoggedSagaDesk();
        desk.addStep(0, op, 6, amount);
        desk.supply(op == SEAT ? 1 : 0, 6, supplied);
        desk.begin(0);
        desk.flush(3);
        return desk;
    }

    private static void answers(String name, LoggedSagaDesk desk, int node, boolean yes, int left) {
        Checks.due(name + ": deliver(0)", desk.deliver(0), yes ? 1 : 2);
        Checks.due(name + ": what is left", desk.amount(node, 6), left);
        Checks.due(name + ": the other service", desk.amount(1 - node, 6), 0);
        Checks.due(name + ": messages()", desk.messages(), 1);
        Checks.due(name + ": reply", desk.message(0), (yes ? 20 : 10) + 2 * node);
        Checks.due(name + ": answered", desk.answered(node), 1);
        Checks.due(name + ": answered", desk.answered(1 - node), 0);
        Checks.due(name + ": deliver(0)", desk.deliver(0), 4);
        Checks.due(name + ": record", desk.logByte(3), yes ? 2 : 3);
        Checks.due(name + ": saga", desk.logByte(4), 0);
        Checks.due(name + ": step", desk.logByte(5), 0);
        Checks.due(name + ": logged()", desk.logged(), 6);
        Checks.due(name + ": durable()", desk.durable(), 3);
        Checks.due(name + ": messages()", desk.messages(), 0);
        Checks.due(name + ": status(0)", desk.status(0), yes ? 210 : 300);
    }

    private static void takeAllowedAtItsEdge() {
        answers("TAKE 30 of 100", oneStep(TAKE, 30, 100), 0, true, 70);
        answers("TAKE 30 of 30", oneStep(TAKE, 30, 30), 0, true, 0);
        answers("TAKE 30 of 29", oneStep(TAKE, 30, 29), 0, false, 29);
    }

    private static void giveAllowedAtItsEdge() {
        answers("GIVE 30 to 100", oneStep(GIVE, 30, 100), 0, true, 130);
        answers("GIVE 30 to 970", oneStep(GIVE, 30, 970), 0, true, 1000);
        answers("GIVE 30 to 971", oneStep(GIVE, 30, 971), 0, false, 971);
        answers("GIVE 100 to 0", oneStep(GIVE, 100, 0), 0, true, 100);
    }

    private static void seatAllowedAtItsEdge() {
        answers("SEAT 3 of 5", oneStep(SEAT, 3, 5), 1, true, 2);
        answers("SEAT 3 of 3", oneStep(SEAT, 3, 3), 1, true, 0);
        answers("SEAT 3 of 2", oneStep(SEAT, 3, 2), 1, false, 2);
    }

    private static void advance(LoggedSagaDesk desk, int times) {
        for (int i = 0; i < times; i++) {
            desk.deliver(0);
            desk.deliver(0);
            desk.flush(3);
        }
    }

    /** Saga 0 takes 10 of 1000, saga 1 gives 10 back to 1000, saga 0 undoes: 1010. */
    private static void undoIsAlwaysAllowed() {
        LoggedSagaDesk desk = new LoggedSagaDesk();
        desk.addStep(0, TAKE, 0, 10);
        desk.addStep(0, SEAT, 0, 1);
        desk.addStep(1, GIVE, 0, 10);
        desk.addStep(2, GIVE, 1, 10);
        desk.addStep(2, SEAT, 0, 1);
        desk.addStep(3, TAKE, 1, 10);
        desk.supply(0, 0, 1000);
        desk.begin(0);
        desk.flush(3);
        advance(desk, 2);
        Checks.due("status(0)", desk.status(0), 1110);
        desk.begin(1);
        desk.flush(3);
        Checks.due("GIVE up to 1000", desk.deliver(1), 1);
        Checks.due("account 0", desk.amount(0, 0), 1000);
        Checks.due("undo of the TAKE", desk.deliver(0), 1);
        Checks.due("account 0", desk.amount(0, 0), 1010);
        desk.lose(0);
        desk.lose(0);
        desk.begin(2);
        desk.flush(3);
        advance(desk, 2);
        Checks.due("status(2)", desk.status(2), 1110);
        desk.begin(3);
        desk.flush(3);
        Checks.due("TAKE down to 0", desk.deliver(1), 1);
        Checks.due("undo of the GIVE", desk.deliver(0), 1);
        Checks.due("account 1 below 0", desk.amount(0, 1), -10);
    }

    private static void noIsKept() {
        LoggedSagaDesk desk = new LoggedSagaDesk();
        desk.addStep(0, TAKE, 0, 10);
        desk.addStep(1, GIVE, 0, 50);
        desk.begin(0);
        desk.begin(1);
        desk.flush(6);
        desk.repeat(0);
        Checks.due("not allowed", desk.deliver(0), 2);
        Checks.due("now it would be", desk.deliver(0), 1);
        Checks.due("but it was answered", desk.deliver(0), 3);
        Checks.due("account 0", desk.amount(0, 0), 50);
        Checks.due("NO again", desk.message(2), 10);
        Checks.due("two different requests", desk.answered(0), 2);
    }

    private static void requestLostWhereNodeIsDown() {
        for (int node = 0; node < 2; node++) {
            LoggedSagaDesk desk = oneStep(node == 0 ? TAKE : SEAT, 3, 9);
            desk.crash(1 - node);
            desk.repeat(0);
            desk.repeat(0);
            desk.crash(node);
            Checks.due("lost", desk.deliver(0), 6);
            Checks.due("no reply", desk.messages(), 2);
            Checks.due("not done", desk.amount(node, 6), 9);
            Checks.due("not answered", desk.answered(node), 0);
            desk.restart(node);
            Checks.due("the first that arrives", desk.deliver(0), 1);
            Checks.due("done", desk.amount(node, 6), 6);
            desk.crash(node);
            Checks.due("lost, though answered before", desk.deliver(0), 6);
            Checks.due("only the first reply", desk.messages(), 1);
        }
    }

    private static void replyLostWhereDeskIsDown() {
        LoggedSagaDesk desk = oneStep(TAKE, 3, 9);
        desk.crash(2);
        Checks.due("requests arrive all the same", desk.deliver(0), 1);
        Checks.due("the reply is lost", desk.deliver(0), 6);
        Checks.due("messages()", desk.messages(), 0);
        Checks.due("logged()", desk.logged(), 3);
        desk.restart(2);
        desk.crash(0);
        desk.restart(0);
        Checks.due("sent again", desk.deliver(0), 3);
        desk.crash(0);
        desk.crash(1);
        Checks.due("the services do not matter", desk.deliver(0), 4);
    }

    private static void replyIgnored() {
        LoggedSagaDesk desk = new LoggedSagaDesk();
        desk.addStep(0, GIVE, 0, 1);
        desk.addStep(0, GIVE, 0, 1);
        desk.begin(0);
        desk.flush(3);
        desk.deliver(0);
        desk.repeat(0);
        desk.repeat(0);
        Checks.due("the first", desk.deliver(0), 4);
        String before = Snapshot.of(desk).replace("line 20 20", "line 20");
        Checks.due("it does not wait", desk.deliver(0), 5);
        Checks.due("nothing was changed but the line", Snapshot.of(desk), before);
        desk.flush(3);
        Checks.due("it waits", desk.status(0), 1010);
        Checks.due("but for another request", desk.deliver(0), 5);
        Checks.due("logged()", desk.logged(), 6);
        advance(desk, 1);
        Checks.due("committed", desk.status(0), 220);
        Checks.due("messages()", desk.messages(), 0);
    }

    private static void lateRequestAfterUndo() {
        LoggedSagaDesk desk = new LoggedSagaDesk();
        desk.addStep(0, TAKE, 0, 10);
        desk.addStep(0, SEAT, 0, 1);
        desk.supply(0, 0, 10);
        desk.begin(0);
        desk.flush(3);
        desk.repeat(0);
        desk.deliver(1);
        desk.deliver(1);
        desk.flush(3);
        desk.deliver(1);
        desk.deliver(1);
        desk.flush(3);
        Checks.due("undo", desk.message(1), 1);
        Checks.due("undone", desk.deliver(1), 1);
        Checks.due("account 0", desk.amount(0, 0), 10);
        Checks.due("the late request to do", desk.deliver(0), 3);
        Checks.due("account 0", desk.amount(0, 0), 10);
        Checks.due("its answer is YES", desk.message(1), 20);
        Checks.due("a late reply for the way forward", desk.deliver(1), 5);
        Checks.due("the reply to undo", desk.deliver(0), 4);
        Checks.due("UNDONE", desk.logByte(9), 4);
        Checks.due("saga", desk.logByte(10), 0);
        Checks.due("step", desk.logByte(11), 0);
        Checks.due("status(0)", desk.status(0), 311);
    }

    private static void sameStepOfTwoSagas() {
        LoggedSagaDesk desk = new LoggedSagaDesk();
        for (int step = 0; step < 4; step++) {
            desk.addStep(0, SEAT, 0, 1);
        }
        desk.supply(1, 0, 100);
        for (int saga = 0; saga < 12; saga++) {
            desk.begin(0);
        }
        desk.flush(36);
        for (int step = 0; step < 4; step++) {
            for (int saga = 0; saga < 12; saga++) {
                Checks.due("a request of its own", desk.deliver(0), 1);
            }
            for (int saga = 0; saga < 12; saga++) {
                Checks.due("its reply", desk.deliver(0), 4);
            }
            desk.flush(36);
        }
        Checks.due("answered(1)", desk.answered(1), 48);
        Checks.due("room 0", desk.amount(1, 0), 52);
    }

    private static void deliverWrong() {
        LoggedSagaDesk desk = new LoggedSagaDesk();
        Checks.due("an empty line", desk.deliver(0), 0);
        desk = oneStep(TAKE, 3, 9);
        String before = Snapshot.of(desk);
        Checks.due("deliver(1)", desk.deliver(1), 0);
        Checks.due("deliver(24)", desk.deliver(24), 0);
        for (int wrong : OUTSIDE) {
            Checks.due("deliver(" + wrong + ")", desk.deliver(wrong), 0);
        }
        Checks.due("nothing was changed", Snapshot.of(desk), before);
    }

    private static void deliverInFullLine() {
        LoggedSagaDesk desk = oneStep(TAKE, 3, 9);
        for (int i = 0; i < 23; i++) {
            desk.repeat(0);
        }
        Checks.due("messages()", desk.messages(), 24);
        Checks.due("it leaves the line first", desk.deliver(23), 1);
        Checks.due("so that its reply fits", desk.messages(), 24);
        Checks.due("message(23)", desk.message(23), 20);
        Checks.due("the first of them", desk.deliver(0), 3);
        Checks.due("message(22)", desk.message(22), 20);
        Checks.due("message(23)", desk.message(23), 20);
    }

    private static LoggedSagaDesk threeInLine() {
        LoggedSagaDesk desk = new LoggedSagaDesk();
        desk.addStep(0, GIVE, 0, 1);
        desk.begin(0);
        desk.begin(0);
        desk.begin(0);
        desk.flush(9);
        return desk;
    }

    private static void lose() {
        LoggedSagaDesk desk = new LoggedSagaDesk();
        Checks.due("an empty line", desk.lose(0), false);
        desk = threeInLine();
        String before = Snapshot.of(desk);
        Checks.due("lose(3)", desk.lose(3), false);
        for (int wrong : OUTSIDE) {
            Checks.due("lose(" + wrong + ")", desk.lose(wrong), false);
        }
        Checks.due("nothing was changed", Snapshot.of(desk), before);
        Checks.due("lose(1)", desk.lose(1), true);
        Checks.due("only the line was changed", Snapshot.of(desk),
                before.replace("line 0 1000 2000", "line 0 2000"));
        Checks.due("the last", desk.lose(1), true);
        Checks.due("the first", desk.lose(0), true);
        Checks.due("messages()", desk.messages(), 0);
    }

    private static void repeat() {
        LoggedSagaDesk desk = new LoggedSagaDesk();
        Checks.due("an empty line", desk.repeat(0), false);
        desk = threeInLine();
        String before = Snapshot.of(desk);
        Checks.due("repeat(3)", desk.repeat(3), false);
        for (int wrong : OUTSIDE) {
            Checks.due("repeat(" + wrong + ")", desk.repeat(wrong), false);
        }
        Checks.due("nothing was changed", Snapshot.of(desk), before);
        Checks.due("repeat(1)", desk.repeat(1), true);
        Checks.due("only the line was changed", Snapshot.of(desk),
                before.replace("line 0 1000 2000", "line 0 1000 2000 1000"));
        for (int size = 4; size < 24; size++) {
            Checks.due("repeat(2)", desk.repeat(2), true);
        }
        Checks.due("messages()", desk.messages(), 24);
        Checks.due("message(23)", desk.message(23), 2000);
        before = Snapshot.of(desk);
        Checks.due("there are 24", desk.repeat(2), false);
        Checks.due("nothing was changed", Snapshot.of(desk), before);
        desk.crash(0);
        desk.crash(1);
        desk.crash(2);
        desk.lose(0);
        Checks.due("nodes that are down do not matter", desk.repeat(0), true);
        Checks.due("message(23)", desk.message(23), 1000);
    }

    /** Every kind of message of step 3 and step 2 of saga 11, and those of saga 0. */
    private static void messageOfEveryShape() {
        LoggedSagaDesk desk = new LoggedSagaDesk();
        desk.addStep(0, TAKE, 0, 1);
        desk.addStep(0, GIVE, 1, 1);
        desk.addStep(0, SEAT, 0, 1);
        desk.addStep(0, SEAT, 1, 1);
        desk.supply(0, 0, 1);
        desk.supply(1, 0, 1);
        for (int saga = 0; saga < 12; saga++) {
            desk.begin(0);
        }
        desk.flush(36);
        for (int saga = 0; saga < 11; saga++) {
            Checks.due("message(0)", desk.message(0), 1000 * saga);
            Checks.due("message(-1)", desk.message(-1), LoggedSagaDesk.BAD);
            Checks.due("no message", desk.message(12 - saga), LoggedSagaDesk.BAD);
            desk.lose(0);
        }
        int[] due = {11000, 11020, 11100, 11120, 11202, 11222, 11302, 11312,
            11203, 11223, 11101, 11121, 11001, 11021};
        for (int want : due) {
            Checks.due("messages()", desk.messages(), 1);
            Checks.due("message(0)", desk.message(0), want);
            desk.deliver(0);
            desk.flush(3);
        }
        Checks.due("status(11)", desk.status(11), 333);
        Checks.due("messages()", desk.messages(), 0);
        for (int wrong : OUTSIDE) {
            Checks.due("message(" + wrong + ")", desk.message(wrong), LoggedSagaDesk.BAD);
        }
        Checks.due("message(0)", desk.message(0), LoggedSagaDesk.BAD);
        Checks.due("a refused TAKE", refused(TAKE), 10);
        Checks.due("a refused SEAT", refused(SEAT), 12);
    }

    private static int refused(int op) {
        LoggedSagaDesk desk = oneStep(op, 3, 0);
        desk.deliver(0);
        return desk.message(0);
    }
}
