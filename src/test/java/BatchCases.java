/** Promise 3: a batch more. */
final class BatchCases extends LedgerCases {
    @Says(promise = 3, words = "A batch more, open, without rows: its number")
    static void batchesAreNumberedFromOne(CheckedLedger x) {
        x.openOffice();
        x.batch(5).is(1);
        x.batch(5).is(2);
        x.batch(0).is(3);
        x.row(3, CASH, 1).is(true);
        x.row(4, CASH, 1).is(false);
    }

    @Says(promise = 3, words = "A batch more, open, without rows: its number")
    static void newBatchIsOpen(CheckedLedger x) {
        x.openOffice();
        x.batch(5).is(1);
        x.row(1, CASH, -1).is(true);
        x.hold(CASH).is(1);
        x.fails(1, true).is(true);
    }

    @Says(promise = 3, words = "A batch more, open, without rows: its number")
    static void newBatchHasNoRows(CheckedLedger x) {
        x.openOffice();
        x.batch(5).is(1);
        x.hold(CASH).is(0);
        x.rows().is(0);
        x.post(1).isRefusedByThrowing();
    }

    @Says(promise = 3, words = "OUTSIDE (a day is not 0 .. 20000)")
    static void dayTooSmall(CheckedLedger x) {
        x.batch(-1).is(OUTSIDE);
        x.batch(MIN_LONG).is(OUTSIDE);
    }

    @Says(promise = 3, words = "OUTSIDE (a day is not 0 .. 20000)")
    static void dayTooLarge(CheckedLedger x) {
        x.batch(20001).is(OUTSIDE);
        x.batch(MAX_LONG).is(OUTSIDE);
    }

    @Says(promise = 3, words = "OUTSIDE (a day is not 0 .. 20000)")
    static void dayThatWouldWrapAround(CheckedLedger x) {
        x.batch(WRAP).is(OUTSIDE);
        x.batch(WRAP + 5).is(OUTSIDE);
        x.batch(5 - WRAP).is(OUTSIDE);
    }

    @Says(promise = 3, words = "OUTSIDE (a day is not 0 .. 20000)")
    static void firstDayAndLastDay(CheckedLedger x) {
        x.openOffice();
        x.batch(0).is(1);
        x.batch(20000).is(2);
    }

    @Says(promise = 3, words = "STATE (it is closed)")
    static void dayClosed(CheckedLedger x) {
        x.close(7);
        x.batch(7).is(STATE);
        x.batch(6).is(STATE);
        x.batch(0).is(STATE);
    }

    @Says(promise = 3, words = "STATE (it is closed)")
    static void dayBehindTheClosedOnes(CheckedLedger x) {
        x.close(7);
        x.batch(8).is(1);
    }

    @Says(promise = 3, words = "STATE (it is closed)")
    static void allDaysClosed(CheckedLedger x) {
        x.close(LAST);
        x.batch(20000).is(STATE);
        x.batch(0).is(STATE);
    }

    @Says(promise = 3, words = "(300 at most)")
    static void batchesFull(CheckedLedger x) {
        x.openOffice();
        x.fillBatches(299);
        x.batch(8).is(300);
        x.batch(8).is(ROOM);
        x.batch(0).is(ROOM);
        x.row(301, CASH, 1).is(false);
        x.post(301).is(UNKNOWN);
    }

    @Says(promise = 3, words = "(300 at most)")
    static void lastBatchIsLikeAnyOther(CheckedLedger x) {
        x.openOffice();
        x.fillBatches(299);
        x.move(8, CASH, OTHER, 5);
        x.balance(OTHER, 8).is(5);
        x.post(300).is(STATE);
    }

    @Says(promise = 3, words = "(300 at most)")
    static void batchesThatEndedTakeRoom(CheckedLedger x) {
        x.openOffice();
        x.move(8, CASH, OTHER, 5);
        x.fail(8, CASH, OTHER, 5);
        x.batch(8).is(3);
        x.post(3).isRefusedByThrowing();
        x.reverse(1).is(1);
        x.stock(0, 0, 9).is(9);
        x.fillBatches(300);
        x.batch(LAST).is(ROOM);
        x.post(300).isRefusedByThrowing();
        x.batch(LAST).is(ROOM);
    }

    @Says(promise = 3, words = "A call that is refused changes nothing.")
    static void refusedBatchTakesNoNumber(CheckedLedger x) {
        x.close(7);
        x.batch(-1).is(OUTSIDE);
        x.batch(20001).is(OUTSIDE);
        x.batch(7).is(STATE);
        x.post(1).is(UNKNOWN);
        x.batch(8).is(1);
    }

    @Says(promise = 3, words = "of several the first one here")
    static void outsideComesBeforeState(CheckedLedger x) {
        x.close(7);
        x.batch(-1).is(OUTSIDE);
        x.close(LAST);
        x.batch(20001).is(OUTSIDE);
    }

    @Says(promise = 3, words = "of several the first one here")
    static void outsideAndStateComeBeforeRoom(CheckedLedger x) {
        x.close(7);
        x.fillBatches(300);
        x.batch(-1).is(OUTSIDE);
        x.batch(20001).is(OUTSIDE);
        x.batch(7).is(STATE);
        x.batch(8).is(ROOM);
    }
}
