/** The boundary cases of the section "Terms": the log, the sagas and how they stand. */
public final class StandingBoundaryTest {
    private static final int BAD = LoggedSagaDesk.BAD;
    private static final int FULL = LoggedSagaDesk.FULL;
    /** How the saga of records() stands after each of its six records, and before the first. */
    private static final int[] STANDING = {BAD, 0, 10, 20, 120, 121, 322};

    public static void main(String[] args) {
        logAtMost288();
        recordsOfThreeBytes();
        bytesBehindAreLost();
        atMostTwelveSagas();
        logEndsWithinAStart();
        logEndsWithinADone();
        logEndsWithinARefused();
        logEndsWithinAnUndone();
        tornRecordOfAnotherSaga();
        committedWhenAllAreDone();
        compensatedWhenAllAreUndone();
        compensatedAtOnce();
        waitsWhenAllItsRecordsAreDurable();
        recordsOfOthersNeedNotBeDurable();
        sendsWhenAllThreeBytesAreDurable();
        lastRecordSendsNothing();
        Checks.end();
    }

    /** Twelve sagas of eight records each: the log's last byte is its last. */
    private static void logAtMost288() {
        Checks.sentence("The LOG is a row of bytes, at most 288");
        Run run = Run.of("3 * addStep 0 1 0 1", "addStep 0 2 0 1", "12 * begin 0");
        for (int record = 1; record < 8; record++) {
            run.due("logged", 36 * record).due("flush 36", 36).go("24 * deliver 0");
        }
        run.due("logged", 288).due("durable", 252).due("logByte 287", 0).refused("logByte 288", BAD)
                .refused("begin 0", FULL).due("flush 37", 36).due("durable", 288)
                .due("messages", 0).refused("flush 1", 0).refused("begin 0", FULL)
                .due("status 0", 333).due("status 11", 333);
    }

    private static void recordsOfThreeBytes() {
        Checks.sentence("1, saga, kind; 2, saga, step; 3, saga, step; 4, saga, step");
        Run run = Run.of("3 * addStep 3 1 0 1", "addStep 3 2 0 1", "12 * begin 3", "flush 36")
                .go("11 * lose 0", "deliver 0", "deliver 0", "flush 3", "2 * deliver 0", "flush 3")
                .go("2 * deliver 0", "flush 3", "2 * deliver 0", "flush 3", "2 * deliver 0")
                .go("flush 3", "2 * deliver 0", "flush 3", "2 * deliver 0").due("logged", 57);
        int[] due = {1, 11, 3, 2, 11, 0, 2, 11, 1, 2, 11, 2, 3, 11, 3, 4, 11, 2, 4, 11, 1, 4, 11, 0};
        for (int i = 0; i < due.length; i++) {
            run.due("logByte " + (33 + i), due[i]);
        }
        run.dueFrom0("logByte", 1, 0, 3, 1, 1, 3).due("logByte 57", BAD).due("status 11", 333);
    }

    private static void bytesBehindAreLost() {
        Checks.sentence("The first bytes of it are DURABLE; those behind are lost");
        for (int durable = 0; durable <= 9; durable++) {
            Run run = Run.of("addStep 2 1 0 1", "3 * begin 2", "flush " + durable, "crash 2")
                    .due("logged", durable).due("durable", durable)
                    .due("logByte " + durable, BAD);
            int[] bytes = {1, 0, 2, 1, 1, 2, 1, 2, 2};
            for (int p = 0; p < durable; p++) {
                run.due("logByte " + p, bytes[p]);
            }
        }
    }

    private static void atMostTwelveSagas() {
        Checks.sentence("SAGAS are those with a START in the log, numbered from 0 (at most 12)");
        Run run = Run.of("addStep 0 1 0 1").due("status 0", BAD);
        for (int saga = 0; saga < 12; saga++) {
            run.due("status " + saga, BAD).due("begin 0", saga).due("status " + saga, 0);
        }
        run.refused("begin 0", FULL).refused("status 12", BAD).refused("status -1", BAD);
    }

    /**
     * GIVE, GIVE and a SEAT that is refused: START, DONE, DONE, REFUSED, UNDONE, UNDONE, as many of
     * them as are told, the last one not durable.
     */
    private static Run records(int count) {
        Run run = Run.of("addStep 0 1 0 1", "addStep 0 1 1 1", "addStep 0 2 0 1", "begin 0");
        for (int i = 1; i < count; i++) {
            run.go("flush 3", "deliver 0", "deliver 0");
        }
        return run;
    }

    private static int durableStanding(int records) {
        return STANDING[records] + (records > 0 && records < 6 ? 1000 : 0);
    }

    private static void logEndsWithin(int record) {
        for (int bytes = 0; bytes <= 3; bytes++) {
            boolean whole = bytes == 3;
            int left = whole ? record : record - 1;
            records(record).due("logged", 3 * record).due("status 0", STANDING[record])
                    .go("flush " + bytes)
                    .due("status 0", whole ? durableStanding(record) : STANDING[record])
                    .go("crash 2").due("logged", 3 * record - 3 + bytes)
                    .due("durable", 3 * record - 3 + bytes).due("status 0", durableStanding(left))
                    .refused("resend 0", 0).refused("flush 3", 0)
                    .go("restart 2").due("logged", 3 * left).due("durable", 3 * left)
                    .due("status 0", durableStanding(left));
        }
    }

    private static void logEndsWithinAStart() {
        Checks.sentence("those that are whole; the log may end within a record: START");
        logEndsWithin(1);
    }

    private static void logEndsWithinADone() {
        Checks.sentence("those that are whole; the log may end within a record: DONE");
        logEndsWithin(2);
        logEndsWithin(3);
    }

    private static void logEndsWithinARefused() {
        Checks.sentence("those that are whole; the log may end within a record: REFUSED");
        logEndsWithin(4);
    }

    private static void logEndsWithinAnUndone() {
        Checks.sentence("those that are whole; the log may end within a record: UNDONE");
        logEndsWithin(5);
        logEndsWithin(6);
    }

    private static void tornRecordOfAnotherSaga() {
        Checks.sentence("those that are whole; the log may end within a record: of another saga");
        for (int bytes = 1; bytes <= 2; bytes++) {
            Run.of("addStep 0 1 0 1", "2 * begin 0", "flush " + (3 + bytes), "crash 2")
                    .due("logged", 3 + bytes).due("status 0", 1000).due("status 1", BAD)
                    .refused("begin 0", LoggedSagaDesk.DOWN)
                    .go("restart 2").due("logged", 3).due("begin 0", 1).due("status 1", 0)
                    .due("flush 3", 3).due("status 1", 1000);
        }
    }

    private static void committedWhenAllAreDone() {
        Checks.sentence("COMMITTED when d = n, else its next REQUEST is to do step d");
        for (int steps = 1; steps <= 4; steps++) {
            Run run = Run.of(steps + " * addStep 1 1 0 1", "begin 1");
            for (int done = 0; done < steps; done++) {
                run.due("status 0", 10 * done).go("flush 3").due("status 0", 1000 + 10 * done)
                        .dueFrom0("message", 100 * done, BAD).go("deliver 0", "deliver 0");
            }
            run.due("status 0", 200 + 10 * steps).go("flush 3").due("status 0", 200 + 10 * steps)
                    .due("messages", 0).refused("resend 0", 0);
        }
    }

    private static void compensatedWhenAllAreUndone() {
        Checks.sentence("COMPENSATED when u = d, else its next request is to undo step d - u - 1");
        for (int done = 1; done <= 3; done++) {
            Run run = Run.of(done + " * addStep 1 1 0 1", "addStep 1 0 7 1", "begin 1");
            for (int step = 0; step <= done; step++) {
                run.go("flush 3", "deliver 0", "deliver 0");
            }
            for (int undone = 0; undone < done; undone++) {
                int standing = 100 + 10 * done + undone;
                run.due("status 0", standing).go("flush 3").due("status 0", 1000 + standing)
                        .dueFrom0("message", 100 * (done - undone - 1) + 1, BAD)
                        .go("deliver 0", "deliver 0");
            }
            run.due("status 0", 300 + 11 * done).go("flush 3").due("status 0", 300 + 11 * done)
                    .due("messages", 0).refused("resend 0", 0);
        }
    }

    private static void compensatedAtOnce() {
        Checks.sentence("COMPENSATED when u = d: the first step is refused");
        Run.of("addStep 1 0 7 1", "3 * addStep 1 1 0 1", "begin 1", "flush 3", "2 * deliver 0")
                .due("status 0", 300).go("flush 3").due("status 0", 300).due("messages", 0)
                .refused("resend 0", 0);
    }

    private static void waitsWhenAllItsRecordsAreDurable() {
        Checks.sentence("A saga WAITS when it is neither ... and all its records are durable");
        for (int record = 1; record <= 6; record++) {
            int waiting = durableStanding(record);
            records(record).due("status 0", STANDING[record]).refused("resend 0", 0)
                    .go("flush 1").due("status 0", STANDING[record]).refused("resend 0", 0)
                    .go("flush 1").due("status 0", STANDING[record]).refused("resend 0", 0)
                    .go("flush 1").due("status 0", waiting).due("resend 0", record < 6 ? 1 : 0);
        }
    }

    private static void recordsOfOthersNeedNotBeDurable() {
        Checks.sentence("A saga WAITS when ... all ITS records are durable");
        Run.of("addStep 0 1 0 1", "begin 0", "flush 3", "begin 0").due("status 0", 1000)
                .due("status 1", 0).due("resend 0", 1).refused("resend 1", 0)
                .go("deliver 0").due("deliver 1", 4).due("logged", 9).due("status 0", 210)
                .due("flush 3", 3).due("status 1", 1000);
    }

    private static void sendsWhenAllThreeBytesAreDurable() {
        Checks.sentence("When all three bytes of a record have become durable, and its saga waits");
        int[] next = {0, 0, 100, 202, 101, 1};
        for (int record = 1; record <= 5; record++) {
            records(record).due("messages", 0).due("flush 1", 1).due("messages", 0)
                    .due("flush 1", 1).due("messages", 0)
                    .due("flush 1", 1).dueFrom0("message", next[record], BAD);
        }
    }

    private static void lastRecordSendsNothing() {
        Checks.sentence("and its saga waits then: not when that was its last record");
        records(6).due("status 0", 322).due("flush 3", 3).due("messages", 0);
        Run.of("addStep 0 1 0 1", "begin 0", "flush 3", "2 * deliver 0").due("status 0", 210)
                .due("flush 3", 3).due("messages", 0);
    }
}
