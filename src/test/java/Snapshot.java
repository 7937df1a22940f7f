/** All that can be seen of a desk, as one text. */
final class Snapshot {
    private Snapshot() {
    }

    static String of(LoggedSagaDesk desk) {
        StringBuilder text = new StringBuilder("log");
        for (int p = 0; p < desk.logged(); p++) {
            text.append(' ').append(desk.logByte(p));
        }
        text.append(" | durable ").append(desk.durable()).append(" | line");
        for (int k = 0; k < desk.messages(); k++) {
            text.append(' ').append(desk.message(k));
        }
        text.append(" | status");
        for (int saga = 0; saga < 12; saga++) {
            text.append(' ').append(desk.status(saga));
        }
        for (int node = 0; node < 2; node++) {
            text.append(" | node ").append(node).append(':');
            for (int thing = 0; thing < 8; thing++) {
                text.append(' ').append(desk.amount(node, thing));
            }
            text.append(" answered ").append(desk.answered(node));
        }
        text.append(" | up ").append(desk.up(0)).append(desk.up(1)).append(desk.up(2));
        return text.toString();
    }
}
