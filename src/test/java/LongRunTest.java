/** The calls that an object is made for, up to the last, and those behind: none of them fails. */
public final class LongRunTest {
    private static final int PROMISED_CALLS = 512;
    private static final int FAR_MORE_CALLS = 20_000;
    private static final String[] CALLS = {"addStep 4", "supply 3", "begin 1", "flush 1", "deliver 1",
        "lose 1", "repeat 1", "resend 1", "crash 1", "restart 1", "amount 2", "status 1", "messages 0",
        "message 1", "logged 0", "durable 0", "logByte 1", "answered 1", "up 1"};

    public static void main(String[] args) {
        lastPromisedCall();
        lastPromisedCallChanges();
        laterCallsEnd();
        objectsDoNotTouchEachOther();
        Checks.end();
    }

    private static void lastPromisedCall() {
        Checks.sentence("An object is used for at most 512 calls: readings up to the last");
        LoggedSagaDesk desk = new LoggedSagaDesk();
        desk.addStep(0, 1, 0, 7);
        desk.begin(0);
        desk.flush(3);
        for (int call = 4; call <= PROMISED_CALLS; call++) {
            Checks.due("status(0) as call " + call, desk.status(0), 1000);
        }
    }

    /** Each round is fourteen calls in which the desk and the bank crash and a request is known. */
    private static void lastPromisedCallChanges() {
        Checks.sentence("An object is used for at most 512 calls: changes up to the last");
        Run run = Run.of("addStep 0 1 0 7", "begin 0", "flush 3", "deliver 0", "lose 0");
        for (int round = 0; round < 36; round++) {
            run.due("crash 2", 1).due("crash 0", 1).due("restart 0", 1).due("restart 2", 1)
                    .due("deliver 0", 3).due("deliver 0", 4).due("logged", 6).due("status 0", 210)
                    .due("flush 2", 2).due("durable", 5).due("crash 2", 1).due("status 0", 1000)
                    .due("restart 2", 1).due("lose 0", 1);
        }
        run.due("resend 0", 1).due("deliver 0", 3).due("amount 0 0", 7);
        Checks.due("calls of the run", run.calls().size(), PROMISED_CALLS);
    }

    /** LANGUAGE.md, rule 7: what later calls answer is free, but they may neither throw nor hang. */
    private static void laterCallsEnd() {
        Checks.sentence("what later calls answer is free");
        for (int seed = 0; seed < 50; seed++) {
            Dice dice = new Dice(2_000_000L + seed);
            LoggedSagaDesk desk = new LoggedSagaDesk();
            int made = 0;
            for (int i = 0; i < FAR_MORE_CALLS; i++) {
                anyCall(dice).on(desk);
                made++;
            }
            Checks.due("calls that ended", made, FAR_MORE_CALLS);
        }
    }

    private static Call anyCall(Dice dice) {
        String call = CALLS[dice.below(CALLS.length)];
        int[] numbers = new int[call.charAt(call.length() - 1) - '0'];
        for (int i = 0; i < numbers.length; i++) {
            numbers[i] = dice.about(dice.oneIn(3) ? 24 : 4);
        }
        return new Call(call.substring(0, call.indexOf(' ')), numbers);
    }

    /** Two objects that take turns, each beside the model of what it went through alone. */
    private static void objectsDoNotTouchEachOther() {
        Checks.sentence("1: as told above, whatever other objects have gone through");
        Dice dice = new Dice(3_000_000L);
        LoggedSagaDesk[] desks = {new LoggedSagaDesk(), new LoggedSagaDesk()};
        PlainModel[] models = {new PlainModel(), new PlainModel()};
        for (int i = 0; i < 2 * PROMISED_CALLS; i++) {
            Call call = anyCall(dice);
            Checks.due("object " + i % 2 + ", call " + i / 2 + ": " + call,
                    call.on(desks[i % 2]), call.on(models[i % 2]));
        }
        Checks.due("sagas were begun", desks[0].logged() > 0 && desks[1].logged() > 0, true);
    }
}
