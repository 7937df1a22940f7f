/** The boundary cases of the section "Terms": the nodes, the kinds and what a step does. */
public final class TermsBoundaryTest {
    private static final int BAD = LoggedSagaDesk.BAD;
    private static final int FULL = LoggedSagaDesk.FULL;

    public static void main(String[] args) {
        accountsAndRooms();
        allUpAndZeroAtFirst();
        kinds();
        stepsOfAKind();
        thingsAndAmountsOfAStep();
        takeAtLeast();
        takeFromBelowZero();
        giveAtMost();
        giveToBelowZero();
        giveToAboveTheLimit();
        seatAtLeast();
        undoOfGiveGoesBelowZero();
        undoOfTakeGoesAboveTheLimit();
        undoOfSeat();
        Checks.end();
    }

    private static void accountsAndRooms() {
        Checks.sentence("the accounts 0 .. 7, the rooms 0 .. 7");
        Run run = Run.of();
        for (int thing = 0; thing < 8; thing++) {
            run.due("supply 0 " + thing + " " + (10 + thing), 1)
                    .due("supply 1 " + thing + " " + (20 + thing), 1);
        }
        run.dueFrom0("amount 0", 10, 11, 12, 13, 14, 15, 16, 17, 0)
                .dueFrom0("amount 1", 20, 21, 22, 23, 24, 25, 26, 27, 0)
                .due("amount 0 -1", 0).due("amount 1 -1", 0)
                .refused("supply 0 -1 5", 0).refused("supply 0 8 5", 0)
                .refused("supply 1 -1 5", 0).refused("supply 1 8 5", 0)
                .refused("supply 2 0 5", 0).refused("supply -1 0 5", 0);
    }

    private static void allUpAndZeroAtFirst() {
        Checks.sentence("All are up, all amounts and seats 0, at first");
        Run.of().dueFrom0("up", 1, 1, 1, 0).dueFrom0("amount 0", 0, 0, 0, 0, 0, 0, 0, 0)
                .dueFrom0("amount 1", 0, 0, 0, 0, 0, 0, 0, 0);
    }

    private static void kinds() {
        Checks.sentence("KINDS 0 .. 3");
        Run.of("addStep 0 1 0 1", "addStep 1 1 1 1", "addStep 2 1 2 1", "addStep 3 1 3 1")
                .refused("addStep -1 1 0 1", BAD).refused("addStep 4 1 0 1", BAD)
                .refused("begin -1", BAD).refused("begin 4", BAD)
                .due("begin 3", 0).due("begin 0", 1).go("flush 6", "2 * deliver 0")
                .due("amount 0 3", 1).due("amount 0 0", 1).due("amount 0 1", 0);
    }

    private static void stepsOfAKind() {
        Checks.sentence("lists of at most 4 STEPS, numbered from 0");
        Run run = Run.of().dueEach("addStep 3 1 7 1", 0, 1, 2, 3).refused("addStep 3 1 7 1", FULL)
                .due("begin 3", 0);
        for (int step = 0; step < 4; step++) {
            run.go("flush 3").due("message 0", 100 * step).go("2 * deliver 0");
        }
        run.due("status 0", 240).due("amount 0 7", 4);
    }

    private static void thingsAndAmountsOfAStep() {
        Checks.sentence("a thing (0 .. 7) and an amount (1 .. 100)");
        Run.of().refused("addStep 0 1 -1 1", BAD).refused("addStep 0 1 8 1", BAD)
                .refused("addStep 0 1 0 0", BAD).refused("addStep 0 1 0 101", BAD)
                .due("addStep 0 1 0 1", 0).due("addStep 0 1 7 100", 1)
                .go("begin 0", "flush 3", "2 * deliver 0", "flush 3", "deliver 0")
                .due("amount 0 0", 1).due("amount 0 7", 100);
    }

    /** A saga of one step at thing 7; its request is the only message. */
    private static Run oneStep(int op, int amount, int stock) {
        return Run.of("addStep 0 " + op + " 7 " + amount, "supply " + op / 2 + " 7 " + stock,
                "begin 0", "flush 3");
    }

    private static void allowed(int op, int amount, int stock) {
        int node = op / 2;
        int after = op == 1 ? stock + amount : stock - amount;
        oneStep(op, amount, stock).due("deliver 0", 1).due("amount " + node + " 7", after)
                .dueFrom0("message", 20 + 2 * node, BAD).due("deliver 0", 4)
                .due("status 0", 210).due("logByte 3", 2);
    }

    private static void notAllowed(int op, int amount, int stock) {
        int node = op / 2;
        oneStep(op, amount, stock).due("deliver 0", 2).due("amount " + node + " 7", stock)
                .dueFrom0("message", 10 + 2 * node, BAD).due("deliver 0", 4)
                .due("status 0", 300).due("logByte 3", 3);
    }

    private static void takeAtLeast() {
        Checks.sentence("TAKE: allowed when the account has at least that amount");
        int[] amounts = {1, 2, 50, 99, 100};
        for (int amount : amounts) {
            allowed(0, amount, amount + 1);
            allowed(0, amount, amount);
            notAllowed(0, amount, amount - 1);
            notAllowed(0, amount, 0);
            allowed(0, amount, 1000);
        }
    }

    private static void giveAtMost() {
        Checks.sentence("GIVE: allowed when the account has at most 1000 with it");
        int[] amounts = {1, 2, 50, 99, 100};
        for (int amount : amounts) {
            allowed(1, amount, 0);
            allowed(1, amount, 999 - amount);
            allowed(1, amount, 1000 - amount);
            notAllowed(1, amount, 1001 - amount);
            notAllowed(1, amount, 1000);
        }
    }

    private static void seatAtLeast() {
        Checks.sentence("SEAT: allowed when the room has at least so many free seats");
        int[] amounts = {1, 2, 50, 99, 100};
        for (int amount : amounts) {
            allowed(2, amount, amount + 1);
            allowed(2, amount, amount);
            notAllowed(2, amount, amount - 1);
            notAllowed(2, amount, 0);
            allowed(2, amount, 1000);
        }
    }

    /**
     * Sagas 0 and 1 have each given 100 to account 0 and been refused a seat, and saga 2 has taken
     * 100 of the 200: the requests to undo stand first in the line, then saga 2's reply.
     */
    private static Run givenAndTaken() {
        return Run.of("addStep 0 1 0 100", "addStep 0 2 0 1", "addStep 1 0 0 100", "addStep 2 0 0 1",
                "addStep 3 1 0 1", "2 * begin 0", "flush 6", "4 * deliver 0", "flush 6",
                "4 * deliver 0", "flush 6", "begin 1", "flush 3", "deliver 2")
                .due("amount 0 0", 100).dueFrom0("message", 1, 1001, 2020, BAD);
    }

    private static void undoOfGiveGoesBelowZero() {
        Checks.sentence("that is always allowed (an account may go below 0)");
        givenAndTaken().due("deliver 0", 1).due("amount 0 0", 0)
                .due("deliver 0", 1).due("amount 0 0", -100)
                .dueFrom0("message", 2020, 21, 1021, BAD).due("deliver 1", 4).due("deliver 1", 4)
                .due("status 0", 311).due("status 1", 311);
    }

    private static void takeFromBelowZero() {
        Checks.sentence("TAKE: not from an account below 0");
        givenAndTaken().go("2 * deliver 0", "begin 2", "flush 3").due("amount 0 0", -100)
                .due("message 3", 3000).due("deliver 3", 2).due("amount 0 0", -100)
                .due("message 3", 3010);
    }

    private static void giveToBelowZero() {
        Checks.sentence("GIVE: to an account below 0");
        givenAndTaken().go("2 * deliver 0", "begin 3", "flush 3").due("amount 0 0", -100)
                .due("deliver 3", 1).due("amount 0 0", -99).due("message 3", 3020);
    }

    /** Saga 0 has taken 100 of 1000 and been refused a seat, saga 1 has given 100 again. */
    private static Run takenAndGiven() {
        return Run.of("addStep 0 0 0 100", "addStep 0 2 0 1", "addStep 1 1 0 100", "addStep 2 1 0 1",
                "addStep 3 0 0 100", "supply 0 0 1000", "begin 0", "flush 3", "2 * deliver 0",
                "flush 3", "2 * deliver 0", "flush 3", "begin 1", "flush 3", "deliver 1")
                .due("amount 0 0", 1000).dueFrom0("message", 1, 1020, BAD);
    }

    private static void undoOfTakeGoesAboveTheLimit() {
        Checks.sentence("To UNDO a step is to add what it took; that is always allowed");
        takenAndGiven().due("deliver 0", 1).due("amount 0 0", 1100)
                .dueFrom0("message", 1020, 21, BAD).due("deliver 1", 4).due("status 0", 311);
    }

    private static void giveToAboveTheLimit() {
        Checks.sentence("GIVE: to an account above 1000, and TAKE from it");
        takenAndGiven().go("deliver 0", "begin 2", "2 * begin 3", "flush 9").due("amount 0 0", 1100)
                .due("deliver 2", 2).due("amount 0 0", 1100)
                .due("deliver 2", 1).due("amount 0 0", 1000)
                .due("deliver 2", 1).due("amount 0 0", 900);
    }

    private static void undoOfSeat() {
        Checks.sentence("To UNDO a step is to add what it took, of the last seats of a room");
        Run.of("addStep 0 2 7 100", "addStep 0 0 0 1", "supply 1 7 100", "begin 0", "flush 3")
                .due("deliver 0", 1).due("amount 1 7", 0).go("deliver 0", "flush 3")
                .due("deliver 0", 2).go("deliver 0", "flush 3").due("message 0", 3)
                .due("deliver 0", 1).due("amount 1 7", 100).due("message 0", 23)
                .due("deliver 0", 4).due("status 0", 311);
    }
}
