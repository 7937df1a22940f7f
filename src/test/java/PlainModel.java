import java.util.ArrayList;
import java.util.HashMap;
import java.util.List;
import java.util.Map;

/**
 * The document once more, as directly as the Java library lets it be said: every answer is
 * worked out anew from the log, the line and the kept answers. It shares no code and no
 * representation with the program.
 */
final class PlainModel {
    record Step(String op, int thing, int amount) {
        int node() {
            return op.equals("SEAT") ? 1 : 0;
        }
    }

    record Request(int saga, int step, boolean undo) {
    }

    record Message(Request request, int node, Boolean answer) {
    }

    record Entry(int type, int saga, int value, int end) {
    }

    private static final String[] OPS = {"TAKE", "GIVE", "SEAT"};

    private final List<List<Step>> kinds = new ArrayList<>();
    private final int[][] amounts = new int[2][8];
    private final List<Map<Request, Boolean>> kept = List.of(new HashMap<>(), new HashMap<>());
    private final boolean[] up = {true, true, true};
    private final List<Integer> log = new ArrayList<>();
    private int durable = 0;
    private final List<Message> line = new ArrayList<>();
    private boolean begun = false;

    PlainModel() {
        for (int kind = 0; kind < 4; kind++) {
            kinds.add(new ArrayList<>());
        }
    }

    int addStep(int kind, int op, int thing, int amount) {
        if (kind < 0 || kind > 3 || op < 0 || op > 2 || thing < 0 || thing > 7) {
            return -1;
        }
        if (amount < 1 || amount > 100) {
            return -1;
        }
        if (begun) {
            return -4;
        }
        if (kinds.get(kind).size() == 4) {
            return -3;
        }
        kinds.get(kind).add(new Step(OPS[op], thing, amount));
        return kinds.get(kind).size() - 1;
    }

    boolean supply(int node, int thing, int amount) {
        boolean fits = (node == 0 || node == 1) && thing >= 0 && thing <= 7;
        if (!fits || amount < 0 || amount > 1000 || begun) {
            return false;
        }
        amounts[node][thing] = amount;
        return true;
    }

    int begin(int kind) {
        if (kind < 0 || kind > 3 || kinds.get(kind).isEmpty()) {
            return -1;
        }
        if (!up[2]) {
            return -2;
        }
        int starts = sagas();
        if (starts == 12) {
            return -3;
        }
        begun = true;
        log.addAll(List.of(1, starts, kind));
        return starts;
    }

    int flush(int n) {
        int hardened = 0;
        while (hardened < n && durable < log.size()) {
            durable++;
            hardened++;
            for (Entry entry : entries()) {
                if (entry.end() == durable && waits(entry.saga())) {
                    send(entry.saga());
                }
            }
        }
        return hardened;
    }

    int deliver(int k) {
        if (k < 0 || k >= line.size()) {
            return 0;
        }
        Message message = line.remove(k);
        if (message.answer() != null) {
            return replyArrives(message);
        }
        if (!up[message.node()]) {
            return 6;
        }
        Map<Request, Boolean> answers = kept.get(message.node());
        boolean known = answers.containsKey(message.request());
        if (!known) {
            answers.put(message.request(), doOrUndo(message.request()));
        }
        boolean answer = answers.get(message.request());
        put(new Message(message.request(), message.node(), answer));
        return known ? 3 : answer ? 1 : 2;
    }

    private boolean doOrUndo(Request request) {
        Step step = kinds.get(kindOf(request.saga())).get(request.step());
        int[] row = amounts[step.node()];
        boolean adds = step.op().equals("GIVE");
        if (request.undo()) {
            row[step.thing()] += adds ? -step.amount() : step.amount();
            return true;
        }
        int after = row[step.thing()] + (adds ? step.amount() : -step.amount());
        if (adds ? after > 1000 : after < 0) {
            return false;
        }
        row[step.thing()] = after;
        return true;
    }

    private int replyArrives(Message reply) {
        if (!up[2]) {
            return 6;
        }
        Request request = reply.request();
        if (!waits(request.saga()) || !nextOf(request.saga()).equals(request)) {
            return 5;
        }
        int type = request.undo() ? 4 : reply.answer() ? 2 : 3;
        log.addAll(List.of(type, request.saga(), request.step()));
        return 4;
    }

    boolean lose(int k) {
        if (k < 0 || k >= line.size()) {
            return false;
        }
        line.remove(k);
        return true;
    }

    boolean repeat(int k) {
        if (k < 0 || k >= line.size() || line.size() >= 24) {
            return false;
        }
        line.add(line.get(k));
        return true;
    }

    boolean resend(int saga) {
        if (!up[2] || saga < 0 || saga >= sagas() || !waits(saga)) {
            return false;
        }
        send(saga);
        return true;
    }

    boolean crash(int node) {
        if (node < 0 || node > 2 || !up[node]) {
            return false;
        }
        up[node] = false;
        if (node == 2) {
            log.subList(durable, log.size()).clear();
        }
        return true;
    }

    boolean restart(int node) {
        if (node < 0 || node > 2 || up[node]) {
            return false;
        }
        up[node] = true;
        if (node == 2) {
            while (log.size() % 3 != 0) {
                log.remove(log.size() - 1);
            }
            durable = log.size();
            for (int saga = 0; saga < sagas(); saga++) {
                if (waits(saga)) {
                    send(saga);
                }
            }
        }
        return true;
    }

    int status(int saga) {
        if (saga < 0 || saga >= sagas()) {
            return -1;
        }
        int sum = 10 * count(saga, 2) + count(saga, 4);
        boolean back = count(saga, 3) > 0;
        if (isOver(saga)) {
            return sum + (back ? 300 : 200);
        }
        return sum + (back ? 100 : 0) + (waits(saga) ? 1000 : 0);
    }

    int amount(int node, int thing) {
        boolean known = (node == 0 || node == 1) && thing >= 0 && thing <= 7;
        return known ? amounts[node][thing] : 0;
    }

    int messages() {
        return line.size();
    }

    int message(int k) {
        return k >= 0 && k < line.size() ? number(line.get(k)) : -1;
    }

    int logged() {
        return log.size();
    }

    int durable() {
        return durable;
    }

    int logByte(int p) {
        return p >= 0 && p < log.size() ? log.get(p) : -1;
    }

    int answered(int node) {
        return node == 0 || node == 1 ? kept.get(node).size() : -1;
    }

    boolean up(int node) {
        return node >= 0 && node <= 2 && up[node];
    }

    private static int number(Message message) {
        Request request = message.request();
        int number = 1000 * request.saga() + 100 * request.step();
        if (message.answer() != null) {
            number += message.answer() ? 20 : 10;
        }
        return number + (message.node() == 1 ? 2 : 0) + (request.undo() ? 1 : 0);
    }

    private List<Entry> entries() {
        List<Entry> entries = new ArrayList<>();
        for (int p = 0; p + 3 <= log.size(); p += 3) {
            entries.add(new Entry(log.get(p), log.get(p + 1), log.get(p + 2), p + 3));
        }
        return entries;
    }

    private int sagas() {
        return (int) entries().stream().filter(entry -> entry.type() == 1).count();
    }

    private int count(int saga, int type) {
        return (int) entries().stream()
                .filter(entry -> entry.saga() == saga && entry.type() == type).count();
    }

    private int kindOf(int saga) {
        return entries().stream().filter(entry -> entry.saga() == saga && entry.type() == 1)
                .findFirst().orElseThrow().value();
    }

    private boolean isOver(int saga) {
        if (count(saga, 3) > 0) {
            return count(saga, 4) == count(saga, 2);
        }
        return count(saga, 2) == kinds.get(kindOf(saga)).size();
    }

    private boolean waits(int saga) {
        return !isOver(saga) && entries().stream()
                .allMatch(entry -> entry.saga() != saga || entry.end() <= durable);
    }

    private Request nextOf(int saga) {
        boolean back = count(saga, 3) > 0;
        int step = back ? count(saga, 2) - count(saga, 4) - 1 : count(saga, 2);
        return new Request(saga, step, back);
    }

    private void send(int saga) {
        Request next = nextOf(saga);
        put(new Message(next, kinds.get(kindOf(saga)).get(next.step()).node(), null));
    }

    private void put(Message message) {
        if (line.size() < 24) {
            line.add(message);
        }
    }
}
