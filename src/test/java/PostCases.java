/** Promise 5 but for the limits: how a batch ends. */
final class PostCases extends LedgerCases {
    @Says(promise = 5, words = "The batch is POSTED: 1")
    static void posted(CheckedLedger x) {
        x.openOffice();
        int batch = x.moving(5, CASH, OTHER, 30);
        x.rows().is(0);
        x.balance(CASH, 5).is(0);
        x.post(batch).is(1);
        x.rows().is(2);
        x.balance(CASH, 5).is(-30);
        x.balance(OTHER, 5).is(30);
    }

    @Says(promise = 5, words = "UNKNOWN (there is no such account, batch)")
    static void noSuchBatch(CheckedLedger x) {
        x.post(1).is(UNKNOWN);
        x.openOffice();
        x.moving(5, CASH, OTHER, 30);
        x.post(0).is(UNKNOWN);
        x.post(2).is(UNKNOWN);
        x.post(-1).is(UNKNOWN);
        x.post(MIN).is(UNKNOWN);
        x.post(MAX).is(UNKNOWN);
    }

    @Says(promise = 5, words = "STATE (it is not open, or its day is closed)")
    static void postedAlready(CheckedLedger x) {
        x.openOffice();
        int batch = x.move(5, CASH, OTHER, 30);
        x.post(batch).is(STATE);
        x.rows().is(2);
        x.balance(CASH, 5).is(-30);
    }

    @Says(promise = 5, words = "STATE (it is not open, or its day is closed)")
    static void refusedAlready(CheckedLedger x) {
        x.openOffice();
        x.batch(5);
        x.post(1).isRefusedByThrowing();
        x.post(1).is(STATE);
    }

    @Says(promise = 5, words = "STATE (it is not open, or its day is closed)")
    static void failedAlready(CheckedLedger x) {
        x.openOffice();
        int batch = x.fail(5, CASH, OTHER, 30);
        x.post(batch).is(STATE);
        x.rows().is(0);
    }

    @Says(promise = 5, words = "STATE (it is not open, or its day is closed)")
    static void postedByReverseOrStock(CheckedLedger x) {
        x.openOffice();
        x.move(5, CASH, OTHER, 30);
        x.reverse(1).is(1);
        x.stock(0, 0, 7).is(7);
        x.post(2).is(STATE);
        x.post(3).is(STATE);
        x.rows().is(6);
    }

    @Says(promise = 5, words = "(batches of them are refused as STATE, and stay open)")
    static void dayClosed(CheckedLedger x) {
        x.openOffice();
        int batch = x.moving(5, CASH, OTHER, 30);
        x.close(5);
        x.post(batch).is(STATE);
        x.hold(CASH).is(30);
        x.rows().is(0);
        x.balance(CASH, 5).is(0);
        x.row(batch, CASH, -1).is(true);
        x.fails(batch, true).is(true);
    }

    @Says(promise = 5, words = "(batches of them are refused as STATE, and stay open)")
    static void dayBeforeTheLastClosedOne(CheckedLedger x) {
        x.openOffice();
        int first = x.moving(0, CASH, OTHER, 30);
        int second = x.moving(4, CASH, OTHER, 30);
        x.close(5);
        x.post(first).is(STATE);
        x.post(second).is(STATE);
        x.hold(CASH).is(60);
    }

    @Says(promise = 5, words = "DAYS up to one may be CLOSED")
    static void dayBehindTheClosedOnes(CheckedLedger x) {
        x.openOffice();
        int batch = x.moving(6, CASH, OTHER, 30);
        x.close(5);
        x.post(batch).is(1);
    }

    @Says(promise = 5, words = "(batches of them are refused as STATE, and stay open)")
    static void lastDayClosed(CheckedLedger x) {
        x.openOffice();
        int batch = x.moving(LAST, CASH, OTHER, 30);
        x.close(LAST);
        x.post(batch).is(STATE);
        x.hold(CASH).is(30);
    }

    @Says(promise = 5, words = "(batches of them are refused as STATE, and stay open)")
    static void dayClosedComesBeforeEveryOtherEnd(CheckedLedger x) {
        x.openOffice();
        int empty = x.batch(5).number();
        int uneven = x.batch(5).number();
        x.row(uneven, CASH, -1);
        int limited = x.moving(5, CUSTOMER, CASH, 1);
        int planned = x.moving(5, CASH, OTHER, 30);
        x.fails(planned, true);
        x.close(5);
        x.post(empty).is(STATE);
        x.post(uneven).is(STATE);
        x.post(limited).is(STATE);
        x.post(planned).is(STATE);
        x.hold(CASH).is(31);
        x.hold(CUSTOMER).is(1);
        x.row(empty, CASH, 1).is(true);
        x.fails(planned, true).is(false);
        x.fails(planned, false).is(true);
    }

    @Says(promise = 5, words = "It is REFUSED if its rows do not sum to 0")
    static void sumTooLargeByOne(CheckedLedger x) {
        x.openOffice();
        uneven(x, -30, 31);
        x.post(1).isRefusedByThrowing();
        nothingIsIn(x);
    }

    @Says(promise = 5, words = "It is REFUSED if its rows do not sum to 0")
    static void sumTooSmallByOne(CheckedLedger x) {
        x.openOffice();
        uneven(x, -30, 29);
        x.post(1).isRefusedByThrowing();
        nothingIsIn(x);
    }

    @Says(promise = 5, words = "It is REFUSED if its rows do not sum to 0")
    static void oneRowAlone(CheckedLedger x) {
        x.openOffice();
        x.batch(5);
        x.row(1, CASH, 30);
        x.post(1).isRefusedByThrowing();
        nothingIsIn(x);
    }

    @Says(promise = 5, words = "It is REFUSED if its rows do not sum to 0")
    static void largestSumOfAll(CheckedLedger x) {
        x.openOffice();
        x.batch(5);
        for (int row = 1; row <= 12; row++) {
            x.row(1, CASH, MOST).is(true);
        }
        x.post(1).isRefusedByThrowing();
        nothingIsIn(x);
    }

    @Says(promise = 5, words = "It is REFUSED if its rows do not sum to 0")
    static void largestRowsThatSumToZero(CheckedLedger x) {
        x.openOffice();
        x.moveSixLargest(5, CASH, OTHER);
        x.balance(OTHER, 5).is(6 * MOST);
        x.balance(CASH, 5).is(-6 * MOST);
    }

    @Says(promise = 5, words = "or there is none")
    static void empty(CheckedLedger x) {
        x.openOffice();
        x.batch(5);
        x.post(1).isRefusedByThrowing();
        nothingIsIn(x);
    }

    @Says(promise = 5, words = "It is REFUSED if its rows do not sum to 0, or there is none")
    static void refusedEvenIfItWouldFailByPlan(CheckedLedger x) {
        x.openOffice();
        x.batch(5);
        x.fails(1, true);
        x.post(1).isRefusedByThrowing();
        x.batch(5);
        x.row(2, CASH, 30);
        x.fails(2, true);
        x.post(2).isRefusedByThrowing();
        x.post(2).is(STATE);
        nothingIsIn(x);
    }

    @Says(promise = 5, words = "IllegalStateException when it is REFUSED (it is void then)")
    static void refusedIsVoid(CheckedLedger x) {
        x.openOffice();
        uneven(x, -30, 29);
        x.post(1).isRefusedByThrowing();
        x.row(1, OTHER, 1).is(false);
        x.fails(1, true).is(false);
        x.post(1).is(STATE);
        nothingIsIn(x);
    }

    @Says(promise = 5, words = "0 when it fails by plan")
    static void failed(CheckedLedger x) {
        x.openOffice();
        int batch = x.moving(5, CASH, OTHER, 30);
        x.fails(batch, true).is(true);
        x.post(batch).is(0);
    }

    @Says(promise = 5, words = "Refused or failing, none of its rows are in the books, and the batch is void.")
    static void failedIsVoid(CheckedLedger x) {
        x.openOffice();
        int batch = x.fail(5, CASH, OTHER, 30);
        nothingIsIn(x);
        x.post(batch).is(STATE);
        x.row(batch, CASH, 1).is(false);
        x.fails(batch, false).is(false);
    }

    @Says(promise = 5, words = "Refused or failing, none of its rows are in the books, and the batch is void.")
    static void refusedAtTheLastRow(CheckedLedger x) {
        x.openOffice();
        x.batch(5);
        x.row(1, CASH, -30);
        x.row(1, OTHER, 31);
        x.row(1, CUSTOMER, -1);
        x.post(1).isRefusedByThrowing();
        nothingIsIn(x);
        x.reverse(1).is(0);
    }

    @Says(promise = 5, words = "in the order in which they were posted")
    static void voidBatchesTakeNoRowNumbers(CheckedLedger x) {
        x.openOffice();
        x.fail(5, CASH, OTHER, 30);
        x.post(x.moving(5, CUSTOMER, OTHER, 30)).isRefusedByThrowing();
        x.move(5, CASH, OTHER, 4);
        x.rows().is(2);
        x.reverse(3).is(0);
        x.reverse(1).is(1);
        x.balance(CASH, 5).is(0);
    }

    @Says(promise = 5, words = "Its holds are none any more, whatever way it ends.")
    static void holdsGoWhenPosted(CheckedLedger x) {
        x.openOffice();
        int batch = x.moving(5, CASH, OTHER, 30);
        x.hold(CASH).is(30);
        x.post(batch).is(1);
        x.hold(CASH).is(0);
    }

    @Says(promise = 5, words = "Its holds are none any more, whatever way it ends.")
    static void holdsGoWhenFailed(CheckedLedger x) {
        x.openOffice();
        int batch = x.moving(5, CASH, OTHER, 30);
        x.fails(batch, true);
        x.hold(CASH).is(30);
        x.post(batch).is(0);
        x.hold(CASH).is(0);
    }

    @Says(promise = 5, words = "Its holds are none any more, whatever way it ends.")
    static void holdsGoWhenRefusedForItsSum(CheckedLedger x) {
        x.openOffice();
        uneven(x, -30, 29);
        x.hold(CASH).is(30);
        x.post(1).isRefusedByThrowing();
        x.hold(CASH).is(0);
    }

    @Says(promise = 5, words = "Its holds are none any more, whatever way it ends.")
    static void holdsGoWhenRefusedForALimit(CheckedLedger x) {
        x.openOffice();
        x.batch(5);
        x.row(1, CASH, -30);
        x.row(1, CUSTOMER, -1);
        x.row(1, OTHER, 31);
        x.hold(CASH).is(30);
        x.hold(CUSTOMER).is(1);
        x.post(1).isRefusedByThrowing();
        x.hold(CASH).is(0);
        x.hold(CUSTOMER).is(0);
    }

    @Says(promise = 5, words = "Its holds are none any more, whatever way it ends.")
    static void holdsOfOtherBatchesStay(CheckedLedger x) {
        x.openOffice();
        x.moving(5, CASH, OTHER, 8);
        x.move(5, CASH, OTHER, 30);
        x.hold(CASH).is(8);
        x.fail(5, CASH, OTHER, 30);
        x.hold(CASH).is(8);
        x.post(x.batch(5).number()).isRefusedByThrowing();
        x.hold(CASH).is(8);
    }

    private static void uneven(CheckedLedger x, long first, long second) {
        int batch = x.batch(5).number();
        x.row(batch, CASH, first).is(true);
        x.row(batch, OTHER, second).is(true);
    }

    private static void nothingIsIn(CheckedLedger x) {
        x.rows().is(0);
        x.all().is(0);
        for (int account = CASH; account <= DIFFERENCE; account++) {
            x.balance(account, LAST).is(0);
            x.hold(account).is(0);
        }
    }
}
