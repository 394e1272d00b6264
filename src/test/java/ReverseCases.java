/** Promise 8: rows taken back. */
final class ReverseCases extends LedgerCases {
    private static final String DAY = "on its day, or the first day that is not closed, if that is later";

    @Says(promise = 8, words = "a batch of all its rows, each with the other sign, is posted")
    static void allRowsOfTheBatch(CheckedLedger x) {
        x.openOffice();
        threeRows(x);
        x.reverse(1).is(1);
        x.balance(CASH, 5).is(0);
        x.balance(OTHER, 5).is(0);
        x.balance(DIFFERENCE, 5).is(0);
        x.rows().is(6);
    }

    @Says(promise = 8, words = "a batch of all its rows, each with the other sign, is posted")
    static void fullBatch(CheckedLedger x) {
        x.openOffice();
        x.moveSixLargest(5, CASH, OTHER);
        x.reverse(12).is(1);
        x.rows().is(24);
        x.balance(CASH, 5).is(0);
        x.balance(OTHER, 5).is(0);
    }

    @Says(promise = 8, words = "a batch of all its rows, each with the other sign, is posted")
    static void otherBatchesStay(CheckedLedger x) {
        x.openOffice();
        x.move(5, CASH, OTHER, 30);
        x.move(5, CASH, OTHER, 4);
        x.move(5, CASH, OTHER, 500);
        x.reverse(3).is(1);
        x.balance(CASH, 5).is(-530);
        x.balance(OTHER, 5).is(530);
    }

    @Says(promise = 8, words = "The batch of the row with that number is taken back")
    static void byItsMiddleRow(CheckedLedger x) {
        x.openOffice();
        threeRows(x);
        x.reverse(2).is(1);
        x.balance(CASH, 5).is(0);
    }

    @Says(promise = 8, words = "The batch of the row with that number is taken back")
    static void byItsLastRow(CheckedLedger x) {
        x.openOffice();
        threeRows(x);
        x.reverse(3).is(1);
        x.balance(CASH, 5).is(0);
    }

    @Says(promise = 8, words = "Rows of posted batches have NUMBERS 1, 2, .. in the order in which they were posted.")
    static void numbersFollowThePosting(CheckedLedger x) {
        x.openOffice();
        int first = x.moving(5, CASH, OTHER, 30);
        x.move(9, CASH, OTHER, 4);
        x.post(first).is(1);
        x.reverse(2).is(1);
        x.balance(CASH, LAST).is(-30);
        x.reverse(3).is(1);
        x.balance(CASH, LAST).is(0);
    }

    @Says(promise = 8, words = "0 when there is no such row")
    static void noRowsAtAll(CheckedLedger x) {
        x.openOffice();
        x.moving(5, CASH, OTHER, 30);
        x.reverse(1).is(0);
        x.reverse(0).is(0);
        x.rows().is(0);
    }

    @Says(promise = 8, words = "0 when there is no such row")
    static void rowTooSmall(CheckedLedger x) {
        x.openOffice();
        x.move(5, CASH, OTHER, 30);
        x.reverse(0).is(0);
        x.reverse(-1).is(0);
        x.reverse(MIN).is(0);
        x.rows().is(2);
    }

    @Says(promise = 8, words = "0 when there is no such row")
    static void rowTooLarge(CheckedLedger x) {
        x.openOffice();
        x.move(5, CASH, OTHER, 30);
        x.reverse(3).is(0);
        x.reverse(MAX).is(0);
        x.rows().is(2);
    }

    @Says(promise = 8, words = "0 when there is no such row")
    static void rowsOfOpenAndVoidBatchesHaveNoNumbers(CheckedLedger x) {
        x.openOffice();
        x.moving(5, CASH, OTHER, 30);
        x.fail(5, CASH, OTHER, 30);
        x.post(x.moving(5, CUSTOMER, OTHER, 30)).isRefusedByThrowing();
        x.reverse(1).is(0);
        x.reverse(0).is(0);
        x.rows().is(0);
    }

    @Says(promise = 8, words = "its batch was taken back")
    static void takenBackAlready(CheckedLedger x) {
        x.openOffice();
        threeRows(x);
        x.reverse(2).is(1);
        x.reverse(1).is(0);
        x.reverse(2).is(0);
        x.reverse(3).is(0);
        x.rows().is(6);
        x.balance(CASH, 5).is(0);
    }

    @Says(promise = 8, words = "or takes one back")
    static void takingOneBack(CheckedLedger x) {
        x.openOffice();
        threeRows(x);
        x.reverse(1).is(1);
        x.reverse(4).is(0);
        x.reverse(5).is(0);
        x.reverse(6).is(0);
        x.reverse(7).is(0);
        x.rows().is(6);
        x.balance(CASH, 5).is(0);
    }

    @Says(promise = 8, words = DAY)
    static void onItsDay(CheckedLedger x) {
        x.openOffice();
        x.move(9, CASH, OTHER, 30);
        x.close(7);
        x.reverse(1).is(1);
        x.balance(CASH, 8).is(0);
        x.balance(CASH, 9).is(0);
    }

    @Says(promise = 8, words = DAY)
    static void onItsDayRightBehindTheClosedOnes(CheckedLedger x) {
        x.openOffice();
        x.move(8, CASH, OTHER, 30);
        x.close(7);
        x.reverse(1).is(1);
        x.balance(CASH, 7).is(0);
        x.balance(CASH, 8).is(0);
    }

    @Says(promise = 8, words = DAY)
    static void onTheNextDayWhenItsDayIsTheLastClosedOne(CheckedLedger x) {
        x.openOffice();
        x.move(7, CASH, OTHER, 30);
        x.close(7);
        x.reverse(1).is(1);
        x.balance(CASH, 7).is(-30);
        x.balance(CASH, 8).is(0);
    }

    @Says(promise = 8, words = DAY)
    static void onALaterDayWhenMoreDaysAreClosed(CheckedLedger x) {
        x.openOffice();
        x.move(0, CASH, OTHER, 30);
        x.close(7);
        x.reverse(1).is(1);
        x.balance(CASH, 0).is(-30);
        x.balance(CASH, 7).is(-30);
        x.balance(CASH, 8).is(0);
    }

    @Says(promise = 8, words = DAY)
    static void onTheFirstDayWhenNoneIsClosed(CheckedLedger x) {
        x.openOffice();
        x.move(0, CASH, OTHER, 30);
        x.reverse(1).is(1);
        x.balance(CASH, 0).is(0);
    }

    @Says(promise = 8, words = DAY)
    static void behindTheLastDayWhenAllAreClosed(CheckedLedger x) {
        x.openOffice();
        x.move(20000, CASH, OTHER, 30);
        x.close(20000);
        x.reverse(1).is(1);
        x.balance(CASH, 20000).is(-30);
        x.balance(CASH, 20001).is(0);
    }

    @Says(promise = 8, words = "(its limits do not count)")
    static void belowALimit(CheckedLedger x) {
        x.openOffice();
        x.move(5, CASH, CUSTOMER, 30);
        x.move(5, CUSTOMER, CASH, 30);
        x.reverse(1).is(1);
        x.balance(CUSTOMER, 5).is(-30);
        x.all().is(0);
    }

    @Says(promise = 8, words = "ROOM (no batch more)")
    static void asTheLastBatch(CheckedLedger x) {
        x.openOffice();
        x.move(5, CASH, OTHER, 30);
        x.fillBatches(299);
        x.reverse(1).is(1);
        x.balance(CASH, 5).is(0);
        x.batch(5).is(ROOM);
    }

    @Says(promise = 8, words = "ROOM (no batch more)")
    static void batchesFull(CheckedLedger x) {
        x.openOffice();
        x.move(5, CASH, OTHER, 30);
        x.fillBatches(300);
        x.reverse(1).is(ROOM);
        x.reverse(2).is(ROOM);
        x.balance(CASH, 5).is(-30);
        x.rows().is(2);
    }

    @Says(promise = 8, words = "0 when there is no such row, its batch was taken back, or takes one back")
    static void nothingToTakeBackNeedsNoRoom(CheckedLedger x) {
        x.openOffice();
        x.move(5, CASH, OTHER, 30);
        x.reverse(1).is(1);
        x.fillBatches(300);
        x.reverse(0).is(0);
        x.reverse(1).is(0);
        x.reverse(3).is(0);
        x.reverse(5).is(0);
    }

    @Says(promise = 8, words = "a batch of all its rows")
    static void takesTheNextNumberOfABatch(CheckedLedger x) {
        x.openOffice();
        x.move(5, CASH, OTHER, 30);
        x.reverse(1).is(1);
        x.batch(5).is(3);
        x.post(2).is(STATE);
        x.row(2, CASH, 1).is(false);
        x.fails(2, true).is(false);
    }

    @Says(promise = 8, words = "0 when there is no such row")
    static void thatAnsweredZeroTakesNoNumberOfABatch(CheckedLedger x) {
        x.openOffice();
        x.reverse(1).is(0);
        x.batch(5).is(1);
        x.reverse(1).is(0);
        x.batch(5).is(2);
    }

    @Says(promise = 8, words = "The batch of the row with that number is taken back")
    static void batchOfACount(CheckedLedger x) {
        x.openOffice();
        x.stock(0, 0, 70).is(70);
        x.reverse(2).is(1);
        x.balance(CASH, 0).is(0);
        x.balance(DIFFERENCE, 0).is(0);
        x.reverse(1).is(0);
        x.reverse(3).is(0);
    }

    @Says(promise = 8, words = "The batch of the row with that number is taken back")
    static void batchThatWasPlannedToFailOnce(CheckedLedger x) {
        x.openOffice();
        int batch = x.moving(5, CASH, OTHER, 30);
        x.fails(batch, true);
        x.fails(batch, false);
        x.post(batch).is(1);
        x.reverse(1).is(1);
        x.balance(CASH, 5).is(0);
    }

    /** Batch 1, posted, of three rows. */
    private static void threeRows(CheckedLedger x) {
        x.batch(5).is(1);
        x.row(1, CASH, -4);
        x.row(1, OTHER, 3);
        x.row(1, DIFFERENCE, 1);
        x.post(1).is(1);
    }
}
