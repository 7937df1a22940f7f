/**
 * Sagas of several steps at a bank and a hall, led by a desk that logs before it goes on.
 *
 * <p>A message is held as the number that {@link #message} answers: 1000 * saga + 100 * step
 * + 10 * answer + 2 if it is the hall's + 1 if it is to undo. So no call makes an object, and a
 * reply is its request plus ten times the answer.
 */
public final class LoggedSagaDesk {
    public static final int BAD = -1;
    public static final int DOWN = -2;
    public static final int FULL = -3;
    public static final int LOCKED = -4;

    private static final int BANK = 0;
    private static final int HALL = 1;
    private static final int DESK = 2;
    private static final int SERVICES = 2;
    private static final int NODES = 3;

    private static final int KINDS = 4;
    private static final int STEPS = 4;
    private static final int OPS = 3;
    private static final int THINGS = 8;
    private static final int SAGAS = 12;
    private static final int LINE_PLACES = 24;
    private static final int LOG_BYTES = 288;
    private static final int RECORD_BYTES = 3;
    private static final int STEP_LIMIT = 100;
    private static final int AMOUNT_LIMIT = 1000;

    private static final int GIVE = 1;
    private static final int SEAT = 2;

    private static final int START = 1;
    private static final int DONE = 2;
    private static final int REFUSED = 3;
    private static final int UNDONE = 4;

    private static final int UNANSWERED = 0;
    private static final int NO = 1;
    private static final int YES = 2;

    private static final int NOTHING_ARRIVED = 0;
    private static final int REQUEST_FULFILLED = 1;
    private static final int REQUEST_REFUSED = 2;
    private static final int REQUEST_KNOWN = 3;
    private static final int REPLY_WRITTEN = 4;
    private static final int REPLY_IGNORED = 5;
    private static final int LOST = 6;

    private final Kinds kinds;
    private final Service[] services;
    private final boolean[] running;
    private final Line line;
    private final Log log;
    private final Saga[] sagas;
    private int sagaCount;
    private boolean everBegun;

    public LoggedSagaDesk() {
        kinds = new Kinds();
        services = new Service[SERVICES];
        for (int node = 0; node < SERVICES; node++) {
            services[node] = new Service();
        }
        running = new boolean[NODES];
        for (int node = 0; node < NODES; node++) {
            running[node] = true;
        }
        line = new Line();
        log = new Log();
        sagas = new Saga[SAGAS];
        for (int saga = 0; saga < SAGAS; saga++) {
            sagas[saga] = new Saga();
        }
    }

    public int addStep(int kind, int op, int thing, int amount) {
        if (!isBelow(kind, KINDS) || !isBelow(op, OPS) || !isBelow(thing, THINGS)
                || amount < 1 || amount > STEP_LIMIT) {
            return BAD;
        }
        if (everBegun) {
            return LOCKED;
        }
        if (kinds.stepCount(kind) == STEPS) {
            return FULL;
        }
        return kinds.append(kind, op, thing, amount);
    }

    public boolean supply(int node, int thing, int amount) {
        if (!isBelow(node, SERVICES) || !isBelow(thing, THINGS)
                || amount < 0 || amount > AMOUNT_LIMIT || everBegun) {
            return false;
        }
        services[node].stock(thing, amount);
        return true;
    }

    public int begin(int kind) {
        if (!isBelow(kind, KINDS) || kinds.stepCount(kind) == 0) {
            return BAD;
        }
        if (!running[DESK]) {
            return DOWN;
        }
        if (sagaCount == SAGAS) {
            return FULL;
        }
        int saga = sagaCount;
        everBegun = true;
        writeRecord(START, saga, kind);
        return saga;
    }

    public int flush(int n) {
        int count = Math.max(0, Math.min(n, log.size() - log.safeSize()));
        for (int i = 0; i < count; i++) {
            log.secureByte();
            if (log.safeSize() % RECORD_BYTES == 0) {
                sendIfWaiting(log.sagaOfRecord(log.safeSize() / RECORD_BYTES - 1));
            }
        }
        return count;
    }

    public int deliver(int k) {
        if (!isBelow(k, line.size())) {
            return NOTHING_ARRIVED;
        }
        int arriving = line.take(k);
        if (answerIn(arriving) == UNANSWERED) {
            return takeRequest(arriving);
        }
        return takeReply(arriving);
    }

    public boolean lose(int k) {
        if (!isBelow(k, line.size())) {
            return false;
        }
        line.take(k);
        return true;
    }

    public boolean repeat(int k) {
        if (!isBelow(k, line.size()) || line.size() == LINE_PLACES) {
            return false;
        }
        line.put(line.at(k));
        return true;
    }

    public boolean resend(int saga) {
        if (!running[DESK] || !isBelow(saga, sagaCount)) {
            return false;
        }
        return sendIfWaiting(saga);
    }

    public boolean crash(int node) {
        if (!isBelow(node, NODES) || !running[node]) {
            return false;
        }
        running[node] = false;
        if (node == DESK) {
            log.dropUnsafe();
            readLogAgain();
        }
        return true;
    }

    public boolean restart(int node) {
        if (!isBelow(node, NODES) || running[node]) {
            return false;
        }
        running[node] = true;
        if (node == DESK) {
            log.dropTornRecord();
            for (int saga = 0; saga < sagaCount; saga++) {
                sendIfWaiting(saga);
            }
        }
        return true;
    }

    public int amount(int node, int thing) {
        if (!isBelow(node, SERVICES) || !isBelow(thing, THINGS)) {
            return 0;
        }
        return services[node].stockOf(thing);
    }

    public int status(int saga) {
        if (!isBelow(saga, sagaCount)) {
            return BAD;
        }
        return sagas[saga].standing(kinds) + (isWaiting(saga) ? 1000 : 0);
    }

    public int messages() {
        return line.size();
    }

    public int message(int k) {
        return isBelow(k, line.size()) ? line.at(k) : BAD;
    }

    public int logged() {
        return log.size();
    }

    public int durable() {
        return log.safeSize();
    }

    public int logByte(int p) {
        return isBelow(p, log.size()) ? log.byteAt(p) : BAD;
    }

    public int answered(int node) {
        return isBelow(node, SERVICES) ? services[node].answerCount() : BAD;
    }

    public boolean up(int node) {
        return isBelow(node, NODES) && running[node];
    }

    private int takeRequest(int request) {
        int node = nodeOf(request);
        if (!running[node]) {
            return LOST;
        }
        Service service = services[node];
        int name = nameOf(request);
        int known = service.answerTo(name);
        if (known != UNANSWERED) {
            line.put(replyTo(request, known));
            return REQUEST_KNOWN;
        }
        int slot = kinds.slot(sagas[sagaOf(request)].kindNumber(), stepOf(request));
        int answer = service.attempt(kinds, slot, isToUndo(request));
        service.keepAnswer(name, answer);
        line.put(replyTo(request, answer));
        return answer == YES ? REQUEST_FULFILLED : REQUEST_REFUSED;
    }

    private int takeReply(int reply) {
        if (!running[DESK]) {
            return LOST;
        }
        int saga = sagaOf(reply);
        if (!isWaiting(saga) || requestOf(reply) != nextRequest(saga)) {
            return REPLY_IGNORED;
        }
        writeRecord(recordFor(reply), saga, stepOf(reply));
        return REPLY_WRITTEN;
    }

    private static int recordFor(int reply) {
        if (isToUndo(reply)) {
            return UNDONE;
        }
        return answerIn(reply) == YES ? DONE : REFUSED;
    }

    private void writeRecord(int type, int saga, int value) {
        log.append(type, saga, value);
        readRecord(log.wholeRecords() - 1);
    }

    private void readLogAgain() {
        sagaCount = 0;
        for (int record = 0; record < log.wholeRecords(); record++) {
            readRecord(record);
        }
    }

    private void readRecord(int record) {
        int type = log.typeOfRecord(record);
        if (type == START) {
            sagaCount++;
        }
        sagas[log.sagaOfRecord(record)].read(type, log.valueOfRecord(record), record);
    }

    private boolean isWaiting(int saga) {
        return !sagas[saga].isOver(kinds) && log.isSafe(sagas[saga].lastRecord());
    }

    private boolean sendIfWaiting(int saga) {
        if (!isWaiting(saga)) {
            return false;
        }
        line.put(nextRequest(saga));
        return true;
    }

    private int nextRequest(int saga) {
        Saga asking = sagas[saga];
        int step = asking.nextStep();
        int node = kinds.nodeAt(kinds.slot(asking.kindNumber(), step));
        return 1000 * saga + 100 * step + 2 * node + (asking.goesBack() ? 1 : 0);
    }

    private static int sagaOf(int message) {
        return message / 1000;
    }

    private static int stepOf(int message) {
        return message / 100 % 10;
    }

    private static int answerIn(int message) {
        return message / 10 % 10;
    }

    private static int nodeOf(int message) {
        return message % 10 / 2;
    }

    private static boolean isToUndo(int message) {
        return message % 2 == 1;
    }

    private static int replyTo(int request, int answer) {
        return request + 10 * answer;
    }

    private static int requestOf(int reply) {
        return reply - 10 * answerIn(reply);
    }

    /** The request's place among all that a service may ever be asked. */
    private static int nameOf(int request) {
        return 2 * (STEPS * sagaOf(request) + stepOf(request)) + (isToUndo(request) ? 1 : 0);
    }

    private static boolean isBelow(int number, int bound) {
        return number >= 0 && number < bound;
    }

    /** The kinds of sagas; the steps of all of them stand in shared rows, each at its slot. */
    private static final class Kinds {
        private final int[] counts = new int[KINDS];
        private final int[] ops = new int[KINDS * STEPS];
        private final int[] things = new int[KINDS * STEPS];
        private final int[] sizes = new int[KINDS * STEPS];

        int stepCount(int kind) {
            return counts[kind];
        }

        int append(int kind, int op, int thing, int size) {
            int step = counts[kind];
            int slot = slot(kind, step);
            ops[slot] = op;
            things[slot] = thing;
            sizes[slot] = size;
            counts[kind] = step + 1;
            return step;
        }

        int slot(int kind, int step) {
            return STEPS * kind + step;
        }

        int nodeAt(int slot) {
            return ops[slot] == SEAT ? HALL : BANK;
        }

        int thingAt(int slot) {
            return things[slot];
        }

        boolean isAllowed(int slot, int stock) {
            return ops[slot] == GIVE ? stock + sizes[slot] <= AMOUNT_LIMIT : stock >= sizes[slot];
        }

        int changeBy(int slot) {
            return ops[slot] == GIVE ? sizes[slot] : -sizes[slot];
        }
    }

    /** The bank or the hall: nothing of it is lost in a crash. */
    private static final class Service {
        private final int[] stocks = new int[THINGS];
        private final int[] answers = new int[2 * STEPS * SAGAS];
        private int answersKept;

        void stock(int thing, int size) {
            stocks[thing] = size;
        }

        int stockOf(int thing) {
            return stocks[thing];
        }

        int answerCount() {
            return answersKept;
        }

        int answerTo(int name) {
            return answers[name];
        }

        void keepAnswer(int name, int answer) {
            answers[name] = answer;
            answersKept++;
        }

        int attempt(Kinds kinds, int slot, boolean undo) {
            int thing = kinds.thingAt(slot);
            if (undo) {
                stocks[thing] -= kinds.changeBy(slot);
                return YES;
            }
            if (!kinds.isAllowed(slot, stocks[thing])) {
                return NO;
            }
            stocks[thing] += kinds.changeBy(slot);
            return YES;
        }
    }

    /** The messages on their way. */
    private static final class Line {
        private final int[] places = new int[LINE_PLACES];
        private int taken;

        int size() {
            return taken;
        }

        int at(int k) {
            return places[k];
        }

        void put(int message) {
            if (taken < LINE_PLACES) {
                places[taken] = message;
                taken++;
            }
        }

        int take(int k) {
            int message = places[k];
            taken--;
            System.arraycopy(places, k + 1, places, k, taken - k);
            return message;
        }
    }

    /** The desk's log; its first bytes are safe from a crash. */
    private static final class Log {
        private final int[] bytes = new int[LOG_BYTES];
        private int written;
        private int safe;

        int size() {
            return written;
        }

        int safeSize() {
            return safe;
        }

        int byteAt(int p) {
            return bytes[p];
        }

        /**
         * There is always room: a saga has eight records at most (START, three DONE, REFUSED,
         * three UNDONE), and twelve such sagas fill the log to its last byte.
         */
        void append(int type, int saga, int value) {
            if (written + RECORD_BYTES > LOG_BYTES) {
                return;
            }
            bytes[written] = type;
            bytes[written + 1] = saga;
            bytes[written + 2] = value;
            written += RECORD_BYTES;
        }

        void secureByte() {
            if (safe < written) {
                safe++;
            }
        }

        void dropUnsafe() {
            written = safe;
        }

        void dropTornRecord() {
            written = RECORD_BYTES * wholeRecords();
            safe = Math.min(safe, written);
        }

        int wholeRecords() {
            return written / RECORD_BYTES;
        }

        boolean isSafe(int record) {
            return RECORD_BYTES * (record + 1) <= safe;
        }

        int typeOfRecord(int record) {
            return bytes[RECORD_BYTES * record];
        }

        int sagaOfRecord(int record) {
            return bytes[RECORD_BYTES * record + 1];
        }

        int valueOfRecord(int record) {
            return bytes[RECORD_BYTES * record + 2];
        }
    }

    /** What the records of one saga tell; it is read again from the log after a crash. */
    private static final class Saga {
        private int kind;
        private int done;
        private int undone;
        private boolean refused;
        private int last;

        void read(int type, int value, int record) {
            if (type == START) {
                kind = value;
                done = 0;
                undone = 0;
                refused = false;
            } else if (type == DONE) {
                done++;
            } else if (type == REFUSED) {
                refused = true;
            } else if (type == UNDONE) {
                undone++;
            }
            last = record;
        }

        int kindNumber() {
            return kind;
        }

        int lastRecord() {
            return last;
        }

        boolean goesBack() {
            return refused;
        }

        boolean isOver(Kinds kinds) {
            return refused ? undone == done : done == kinds.stepCount(kind);
        }

        int nextStep() {
            return refused ? done - undone - 1 : done;
        }

        int standing(Kinds kinds) {
            return 10 * done + undone + (refused ? 100 : 0) + (isOver(kinds) ? 200 : 0);
        }
    }
}
