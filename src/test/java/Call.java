import java.util.Arrays;

/** One call, told as a text such as "addStep 0 1 6 30". A boolean answer counts 1 or 0. */
record Call(String name, int[] numbers) {
    static Call of(String text) {
        String[] words = text.trim().split(" +");
        int[] numbers = new int[words.length - 1];
        for (int i = 0; i < numbers.length; i++) {
            numbers[i] = Integer.parseInt(words[i + 1]);
        }
        return new Call(words[0], numbers);
    }

    int on(LoggedSagaDesk desk) {
        return switch (name) {
            case "addStep" -> desk.addStep(numbers[0], numbers[1], numbers[2], numbers[3]);
            case "supply" -> truth(desk.supply(numbers[0], numbers[1], numbers[2]));
            case "begin" -> desk.begin(numbers[0]);
            case "flush" -> desk.flush(numbers[0]);
            case "deliver" -> desk.deliver(numbers[0]);
            case "lose" -> truth(desk.lose(numbers[0]));
            case "repeat" -> truth(desk.repeat(numbers[0]));
            case "resend" -> truth(desk.resend(numbers[0]));
            case "crash" -> truth(desk.crash(numbers[0]));
            case "restart" -> truth(desk.restart(numbers[0]));
            case "amount" -> desk.amount(numbers[0], numbers[1]);
            case "status" -> desk.status(numbers[0]);
            case "messages" -> desk.messages();
            case "message" -> desk.message(numbers[0]);
            case "logged" -> desk.logged();
            case "durable" -> desk.durable();
            case "logByte" -> desk.logByte(numbers[0]);
            case "answered" -> desk.answered(numbers[0]);
            case "up" -> truth(desk.up(numbers[0]));
            default -> throw new IllegalArgumentException(name);
        };
    }

    int on(PlainModel model) {
        return switch (name) {
            case "addStep" -> model.addStep(numbers[0], numbers[1], numbers[2], numbers[3]);
            case "supply" -> truth(model.supply(numbers[0], numbers[1], numbers[2]));
            case "begin" -> model.begin(numbers[0]);
            case "flush" -> model.flush(numbers[0]);
            case "deliver" -> model.deliver(numbers[0]);
            case "lose" -> truth(model.lose(numbers[0]));
            case "repeat" -> truth(model.repeat(numbers[0]));
            case "resend" -> truth(model.resend(numbers[0]));
            case "crash" -> truth(model.crash(numbers[0]));
            case "restart" -> truth(model.restart(numbers[0]));
            case "amount" -> model.amount(numbers[0], numbers[1]);
            case "status" -> model.status(numbers[0]);
            case "messages" -> model.messages();
            case "message" -> model.message(numbers[0]);
            case "logged" -> model.logged();
            case "durable" -> model.durable();
            case "logByte" -> model.logByte(numbers[0]);
            case "answered" -> model.answered(numbers[0]);
            case "up" -> truth(model.up(numbers[0]));
            default -> throw new IllegalArgumentException(name);
        };
    }

    /** Whether a call with this answer must leave the desk as it was: a refused one, or a reading. */
    boolean changesNothing(int answer) {
        return switch (name) {
            case "addStep", "begin" -> answer < 0;
            case "supply", "flush", "deliver", "lose", "repeat", "resend", "crash", "restart" ->
                answer == 0;
            default -> true;
        };
    }

    @Override
    public String toString() {
        String list = Arrays.toString(numbers);
        return name + "(" + list.substring(1, list.length() - 1) + ")";
    }

    private static int truth(boolean answer) {
        return answer ? 1 : 0;
    }
}
