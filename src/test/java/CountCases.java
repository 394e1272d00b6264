/** Promises 11 to 14: plans to fail, holds, and what is counted; and that an object lasts for all its calls. */
final class CountCases extends LedgerCases {
    private static final String ANOTHER_WORD = "whether that is another word than before";
    private static final String NOT_THERE = "(false, too, when there is none such, or it is not open)";

    @Says(promise = 11, words = ANOTHER_WORD)
    static void planIsOffAtFirst(CheckedLedger x) {
        x.openOffice();
        int batch = x.moving(5, CASH, OTHER, 30);
        x.fails(batch, false).is(false);
        x.post(batch).is(1);
    }

    @Says(promise = 11, words = ANOTHER_WORD)
    static void planOnAndOnAgain(CheckedLedger x) {
        x.openOffice();
        int batch = x.moving(5, CASH, OTHER, 30);
        x.fails(batch, true).is(true);
        x.fails(batch, true).is(false);
        x.post(batch).is(0);
    }

    @Says(promise = 11, words = ANOTHER_WORD)
    static void planOnAndOff(CheckedLedger x) {
        x.openOffice();
        int batch = x.moving(5, CASH, OTHER, 30);
        x.fails(batch, true).is(true);
        x.fails(batch, false).is(true);
        x.fails(batch, false).is(false);
        x.post(batch).is(1);
    }

    @Says(promise = 11, words = "The batch will FAIL by plan when it is posted, or not")
    static void planOfOneBatchAlone(CheckedLedger x) {
        x.openOffice();
        int first = x.moving(5, CASH, OTHER, 30);
        int second = x.moving(5, CASH, OTHER, 4);
        x.fails(first, true).is(true);
        x.post(second).is(1);
        x.fails(first, true).is(false);
        x.post(first).is(0);
        x.balance(CASH, 5).is(-4);
    }

    @Says(promise = 11, words = "The batch will FAIL by plan when it is posted, or not")
    static void planBeforeTheRows(CheckedLedger x) {
        x.openOffice();
        int batch = x.batch(5).number();
        x.fails(batch, true).is(true);
        x.row(batch, CASH, -30).is(true);
        x.row(batch, OTHER, 30).is(true);
        x.hold(CASH).is(30);
        x.post(batch).is(0);
    }

    @Says(promise = 11, words = NOT_THERE)
    static void planOfNoBatch(CheckedLedger x) {
        x.fails(1, true).is(false);
        x.batch(5);
        x.fails(0, true).is(false);
        x.fails(2, true).is(false);
        x.fails(-1, true).is(false);
        x.fails(MIN, true).is(false);
        x.fails(MAX, true).is(false);
        x.batch(5);
        x.fails(2, false).is(false);
    }

    @Says(promise = 11, words = NOT_THERE)
    static void planOfAPostedBatch(CheckedLedger x) {
        x.openOffice();
        int batch = x.move(5, CASH, OTHER, 30);
        x.fails(batch, true).is(false);
        x.fails(batch, false).is(false);
        x.reverse(1).is(1);
    }

    @Says(promise = 11, words = NOT_THERE)
    static void planOfAFailedBatch(CheckedLedger x) {
        x.openOffice();
        int batch = x.fail(5, CASH, OTHER, 30);
        x.fails(batch, false).is(false);
        x.fails(batch, true).is(false);
        x.fails(batch, false).is(false);
    }

    @Says(promise = 11, words = NOT_THERE)
    static void planOfARefusedBatch(CheckedLedger x) {
        x.openOffice();
        x.batch(5);
        x.post(1).isRefusedByThrowing();
        x.fails(1, true).is(false);
        x.fails(1, false).is(false);
    }

    @Says(promise = 11, words = NOT_THERE)
    static void planOfBatchesOfReverseAndStock(CheckedLedger x) {
        x.openOffice();
        x.move(5, CASH, OTHER, 30);
        x.reverse(1).is(1);
        x.stock(0, 0, 5).is(5);
        x.fails(2, true).is(false);
        x.fails(3, true).is(false);
        x.reverse(5).is(1);
    }

    @Says(promise = 11, words = "stay open")
    static void planOfAnOpenBatchOfAClosedDay(CheckedLedger x) {
        x.openOffice();
        int batch = x.moving(5, CASH, OTHER, 30);
        x.close(5);
        x.fails(batch, true).is(true);
        x.fails(batch, false).is(true);
    }

    @Says(promise = 12, words = "what its rows below 0 in open batches sum to, without sign")
    static void holdOfRowsBelowZeroAlone(CheckedLedger x) {
        x.openOffice();
        x.batch(5);
        x.row(1, CASH, 25);
        x.hold(CASH).is(0);
        x.row(1, CASH, -30);
        x.hold(CASH).is(30);
        x.row(1, CASH, 100);
        x.hold(CASH).is(30);
        x.row(1, CASH, -1);
        x.hold(CASH).is(31);
        x.hold(OTHER).is(0);
    }

    @Says(promise = 12, words = "what its rows below 0 in open batches sum to, without sign")
    static void holdOfAllOpenBatches(CheckedLedger x) {
        x.openOffice();
        x.moving(5, CASH, OTHER, 30);
        x.moving(9, CASH, OTHER, 4);
        x.moving(0, OTHER, CASH, 500);
        x.hold(CASH).is(34);
        x.hold(OTHER).is(500);
    }

    @Says(promise = 12, words = "what its rows below 0 in open batches sum to, without sign")
    static void holdOfNothing(CheckedLedger x) {
        x.openOffice();
        x.hold(CASH).is(0);
        x.batch(5);
        x.hold(CASH).is(0);
    }

    @Says(promise = 12, words = "what its rows below 0 in open batches sum to, without sign")
    static void holdTooLargeForAnInt(CheckedLedger x) {
        x.openOffice();
        for (int batch = 1; batch <= 4; batch++) {
            x.batch(5);
            for (int row = 1; row <= 12; row++) {
                x.row(batch, CASH, -MOST).is(true);
            }
        }
        x.hold(CASH).is(48 * MOST);
    }

    @Says(promise = 12, words = "what its rows below 0 in open batches sum to, without sign")
    static void holdOfBatchesThatEnded(CheckedLedger x) {
        x.openOffice();
        int posted = x.moving(5, CASH, OTHER, 1);
        int failed = x.moving(5, CASH, OTHER, 20);
        int refused = x.moving(5, CASH, OTHER, 300);
        x.moving(5, CASH, OTHER, 4000);
        x.row(refused, CASH, 7);
        x.fails(failed, true);
        x.hold(CASH).is(4321);
        x.post(posted).is(1);
        x.hold(CASH).is(4320);
        x.post(failed).is(0);
        x.hold(CASH).is(4300);
        x.post(refused).isRefusedByThrowing();
        x.hold(CASH).is(4000);
    }

    @Says(promise = 12, words = "what its rows below 0 in open batches sum to, without sign")
    static void holdOfBatchesOfReverseAndStock(CheckedLedger x) {
        x.openOffice();
        x.move(5, CASH, OTHER, 30);
        x.reverse(1).is(1);
        x.stock(0, 0, -3).is(-3);
        x.hold(CASH).is(0);
        x.hold(OTHER).is(0);
        x.hold(DIFFERENCE).is(0);
    }

    @Says(promise = 12, words = "(batches of them are refused as STATE, and stay open)")
    static void holdOfAnOpenBatchOfAClosedDay(CheckedLedger x) {
        x.openOffice();
        int batch = x.moving(5, CASH, OTHER, 30);
        x.close(5);
        x.hold(CASH).is(30);
        x.post(batch).is(STATE);
        x.hold(CASH).is(30);
    }

    @Says(promise = 12, words = "UNKNOWN (there is no such account, batch)")
    static void holdOfNoAccount(CheckedLedger x) {
        x.hold(1).is(UNKNOWN);
        x.openOffice();
        x.hold(0).is(UNKNOWN);
        x.hold(5).is(UNKNOWN);
        x.hold(-1).is(UNKNOWN);
        x.hold(MIN).is(UNKNOWN);
        x.hold(MAX).is(UNKNOWN);
    }

    @Says(promise = 13, words = "How many rows of posted batches there are.")
    static void rowsOfPostedBatchesAlone(CheckedLedger x) {
        x.openOffice();
        x.moving(5, CASH, OTHER, 30);
        x.rows().is(0);
        x.fail(5, CASH, OTHER, 30);
        x.rows().is(0);
        x.post(x.moving(5, CUSTOMER, OTHER, 30)).isRefusedByThrowing();
        x.rows().is(0);
        x.post(1).is(1);
        x.rows().is(2);
    }

    @Says(promise = 13, words = "How many rows of posted batches there are.")
    static void rowsOfReverseAndStock(CheckedLedger x) {
        x.openOffice();
        x.batch(5);
        x.row(1, CASH, -3);
        x.row(1, OTHER, 2);
        x.row(1, OTHER, 1);
        x.post(1).is(1);
        x.rows().is(3);
        x.reverse(1).is(1);
        x.rows().is(6);
        x.stock(0, 0, 1).is(1);
        x.rows().is(8);
        x.stock(0, 0, 1).is(0);
        x.rows().is(8);
    }

    @Says(promise = 13, words = "How many rows of posted batches there are.")
    static void rowsOfClosedDays(CheckedLedger x) {
        x.openOffice();
        x.moveSixLargest(5, CASH, OTHER);
        x.close(LAST);
        x.rows().is(12);
    }

    @Says(promise = 14, words = "The sum of all balances.")
    static void allOfNothing(CheckedLedger x) {
        x.all().is(0);
        x.openOffice();
        x.all().is(0);
    }

    @Says(promise = 14, words = "The sum of all balances.")
    static void allOfOpenAndVoidBatches(CheckedLedger x) {
        x.openOffice();
        x.batch(5);
        x.row(1, CASH, -30);
        x.all().is(0);
        x.post(1).isRefusedByThrowing();
        x.all().is(0);
        x.fail(5, CASH, OTHER, 30);
        x.all().is(0);
        x.batch(5);
        x.row(3, CASH, 5);
        x.row(3, CUSTOMER, -5);
        x.post(3).isRefusedByThrowing();
        x.all().is(0);
    }

    @Says(promise = 14, words = "The sum of all balances.")
    static void allOfPostedBatches(CheckedLedger x) {
        x.openOffice();
        x.moveSixLargest(5, CASH, OTHER);
        x.all().is(0);
        x.reverse(1).is(1);
        x.all().is(0);
        x.stock(0, 0, 77).is(77);
        x.all().is(0);
        x.close(LAST);
        x.reverse(25).is(1);
        x.all().is(0);
    }

    @Says(promise = 13, words = "An object is used for at most 512 calls after it has been made")
    static void allCallsOfAnObject(CheckedLedger x) {
        x.openOffice();
        for (int batch = 1; batch <= 33; batch++) {
            x.moveSixLargest(5, CASH, OTHER);
        }
        for (int batch = 1; batch <= 33; batch++) {
            x.reverse(12 * batch).is(1);
        }
        while (x.calls() < 511) {
            x.balance(CASH, 5).is(0);
        }
        x.rows().is(792);
    }
}
