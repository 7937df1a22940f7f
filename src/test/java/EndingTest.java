/**
 * The document's first sentence: after any disturbance every saga can be brought to its end, a
 * committed one has done each of its steps once, and of a compensated one nothing is left.
 */
public final class EndingTest {
    private static final int RUNS = 2000;
    private static final int DISTURBED_CALLS = 200;
    private static final int SAGAS = 5;
    private static final int RECORDS_OF_A_SAGA = 8;

    private final Dice dice;
    private final LoggedSagaDesk desk = new LoggedSagaDesk();
    private final int[][] steps = new int[16][];
    private final int[][] due = new int[2][8];
    private final int[] kindOf = new int[SAGAS + 1];
    private final String run;
    private int committed;
    private int compensated;

    private EndingTest(int seed) {
        dice = new Dice(1_000_000L + seed);
        run = "run " + seed + ": ";
    }

    public static void main(String[] args) {
        int committed = 0;
        int compensated = 0;
        for (int seed = 0; seed < RUNS; seed++) {
            EndingTest test = new EndingTest(seed);
            test.setUp();
            test.disturb();
            test.heal();
            test.checkEnds();
            test.checkAmounts();
            committed += test.committed;
            compensated += test.compensated;
        }
        Checks.due("many sagas were committed", committed > RUNS / 2, true);
        Checks.due("many sagas were compensated", compensated > RUNS / 2, true);
        Checks.end();
    }

    private void setUp() {
        for (int slot = 0; slot < 16; slot++) {
            steps[slot] = new int[] {dice.below(3), dice.below(3), 1 + dice.below(40)};
            desk.addStep(slot / 4, steps[slot][0], steps[slot][1], steps[slot][2]);
        }
        for (int thing = 0; thing < 3; thing++) {
            due[0][thing] = dice.below(200);
            due[1][thing] = dice.below(100);
            desk.supply(0, thing, due[0][thing]);
            desk.supply(1, thing, due[1][thing]);
        }
    }

    private void disturb() {
        boolean room = true;
        for (int i = 0; i < DISTURBED_CALLS; i++) {
            int k = dice.below(1 + dice.below(6));
            switch (dice.below(16)) {
                case 0 -> room = room && begin(dice.below(4));
                case 1 -> desk.crash(dice.below(3));
                case 2, 3 -> desk.restart(dice.below(3));
                case 4 -> desk.lose(k);
                case 5 -> desk.repeat(k);
                case 6 -> desk.resend(dice.below(SAGAS));
                case 7, 8, 9, 10 -> desk.flush(dice.below(6));
                default -> desk.deliver(k);
            }
        }
    }

    /** The number of a saga that a crash has lost comes again: its last kind is the one that counts. */
    private boolean begin(int kind) {
        int saga = desk.begin(kind);
        if (saga >= 0) {
            kindOf[saga] = kind;
        }
        return saga < SAGAS - 1;
    }

    private void heal() {
        for (int node = 0; node < 3; node++) {
            desk.restart(node);
        }
        deliverAll();
        desk.flush(288);
        deliverAll();
        for (int saga = 0; saga < SAGAS; saga++) {
            desk.resend(saga);
        }
        for (int record = 0; record < RECORDS_OF_A_SAGA; record++) {
            deliverAll();
            desk.flush(288);
        }
    }

    private void deliverAll() {
        int arrived = 0;
        while (desk.deliver(0) != 0) {
            arrived++;
            if (arrived > 100) {
                Checks.due(run + "the line runs empty", false, true);
                return;
            }
        }
    }

    private void checkEnds() {
        for (int saga = 0; saga < SAGAS; saga++) {
            int status = desk.status(saga);
            boolean none = status == LoggedSagaDesk.BAD;
            Checks.due(run + "saga " + saga + " ended", none || status / 200 == 1, true);
            if (status / 100 == 2) {
                committed++;
                addSteps(kindOf[saga]);
            } else if (status / 100 == 3) {
                compensated++;
            }
        }
    }

    private void checkAmounts() {
        for (int thing = 0; thing < 8; thing++) {
            Checks.due(run + "account " + thing, desk.amount(0, thing), due[0][thing]);
            Checks.due(run + "room " + thing, desk.amount(1, thing), due[1][thing]);
        }
    }

    private void addSteps(int kind) {
        for (int slot = 4 * kind; slot < 4 * kind + 4; slot++) {
            int[] step = steps[slot];
            int node = step[0] == 2 ? 1 : 0;
            due[node][step[1]] += step[0] == 1 ? step[2] : -step[2];
        }
    }
}
