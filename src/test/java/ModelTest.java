/** Mixed runs of the 512 calls that an object is made for, every answer compared with the model. */
public final class ModelTest {
    private static final int RUNS = 3000;
    private static final int CALLS = 512;

    private final Dice dice;
    private final LoggedSagaDesk desk = new LoggedSagaDesk();
    private final PlainModel model = new PlainModel();
    private final int readings;
    private final int losses;
    private final int crashes;
    private final String run;

    private ModelTest(int seed) {
        dice = new Dice(seed);
        readings = 2 + dice.below(3);
        losses = 2 + dice.below(20);
        crashes = 4 + dice.below(60);
        run = "run " + seed + ": ";
    }

    public static void main(String[] args) {
        for (int seed = 0; seed < RUNS && Checks.allRight(); seed++) {
            new ModelTest(seed).play();
        }
        Checks.end();
    }

    private void play() {
        int setups = dice.below(40);
        for (int i = 0; i < CALLS && Checks.allRight(); i++) {
            if (i < setups || dice.oneIn(100)) {
                setUp();
            } else if (dice.oneIn(readings)) {
                look();
            } else {
                go();
            }
        }
    }

    private void setUp() {
        if (dice.oneIn(3)) {
            int node = dice.about(2);
            int thing = dice.about(8);
            int amount = dice.oneIn(2) ? dice.about(1001) : dice.below(60);
            Checks.due(run + "supply(" + node + ", " + thing + ", " + amount + ")",
                    desk.supply(node, thing, amount), model.supply(node, thing, amount));
            return;
        }
        int kind = dice.about(4);
        int op = dice.about(3);
        int thing = dice.oneIn(2) ? dice.about(8) : dice.below(2);
        int amount = dice.oneIn(2) ? dice.about(101) : 1 + dice.below(20);
        Checks.due(run + "addStep(" + kind + ", " + op + ", " + thing + ", " + amount + ")",
                desk.addStep(kind, op, thing, amount), model.addStep(kind, op, thing, amount));
    }

    private void go() {
        if (dice.oneIn(crashes)) {
            crashOrRestart();
        } else if (dice.oneIn(losses)) {
            disturb();
        } else if (dice.oneIn(12)) {
            int kind = dice.about(4);
            Checks.due(run + "begin(" + kind + ")", desk.begin(kind), model.begin(kind));
        } else if (dice.oneIn(3)) {
            int n = dice.oneIn(9) ? dice.about(40) : dice.below(8);
            Checks.due(run + "flush(" + n + ")", desk.flush(n), model.flush(n));
        } else {
            int k = place();
            Checks.due(run + "deliver(" + k + ")", desk.deliver(k), model.deliver(k));
        }
    }

    private void disturb() {
        int k = place();
        int choice = dice.below(3);
        if (choice == 0) {
            Checks.due(run + "lose(" + k + ")", desk.lose(k), model.lose(k));
        } else if (choice == 1) {
            Checks.due(run + "repeat(" + k + ")", desk.repeat(k), model.repeat(k));
        } else {
            int saga = dice.about(12);
            Checks.due(run + "resend(" + saga + ")", desk.resend(saga), model.resend(saga));
        }
    }

    private void crashOrRestart() {
        int node = dice.about(3);
        if (dice.oneIn(3)) {
            Checks.due(run + "crash(" + node + ")", desk.crash(node), model.crash(node));
        } else {
            Checks.due(run + "restart(" + node + ")", desk.restart(node), model.restart(node));
        }
    }

    private void look() {
        int node = dice.about(3);
        int thing = dice.oneIn(2) ? dice.about(8) : dice.below(2);
        int saga = dice.about(12);
        int k = place();
        int p = dice.about(Math.max(1, model.logged()));
        switch (dice.below(10)) {
            case 0 -> Checks.due(run + "messages()", desk.messages(), model.messages());
            case 1 -> Checks.due(run + "message(" + k + ")", desk.message(k), model.message(k));
            case 2 -> Checks.due(run + "logged()", desk.logged(), model.logged());
            case 3 -> Checks.due(run + "durable()", desk.durable(), model.durable());
            case 4 -> Checks.due(run + "logByte(" + p + ")", desk.logByte(p), model.logByte(p));
            case 5 -> Checks.due(run + "answered(" + node + ")",
                    desk.answered(node), model.answered(node));
            case 6 -> Checks.due(run + "up(" + node + ")", desk.up(node), model.up(node));
            case 7 -> Checks.due(run + "amount(" + node + ", " + thing + ")",
                    desk.amount(node, thing), model.amount(node, thing));
            default -> Checks.due(run + "status(" + saga + ")",
                    desk.status(saga), model.status(saga));
        }
    }

    private int place() {
        return dice.about(Math.max(1, model.messages()));
    }
}
