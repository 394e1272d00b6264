/** Promise 4: a row more of a batch. */
final class RowCases extends LedgerCases {
    @Says(promise = 4, words = "A row more of a batch: true")
    static void rowsOfBothSigns(CheckedLedger x) {
        x.openOffice();
        x.batch(1);
        x.row(1, CASH, -5).is(true);
        x.row(1, CASH, 2).is(true);
        x.row(1, OTHER, 3).is(true);
        x.post(1).is(1);
        x.balance(CASH, 1).is(-3);
        x.balance(OTHER, 1).is(3);
    }

    @Says(promise = 4, words = "A row more of a batch: true")
    static void rowsOfAccountsOfEveryKindAndOffice(CheckedLedger x) {
        x.batch(1);
        for (int kind = 0; kind <= 5; kind++) {
            int account = x.account(kind + 4, kind).number();
            x.row(1, account, kind % 2 == 0 ? -5 : 5).is(true);
        }
        x.limit(3, 5);
        x.post(1).is(1);
        x.rows().is(6);
    }

    @Says(promise = 4, words = "false when there is no such batch or account")
    static void noSuchBatch(CheckedLedger x) {
        x.openOffice();
        x.row(1, CASH, 5).is(false);
        x.batch(1);
        x.row(0, CASH, 5).is(false);
        x.row(2, CASH, 5).is(false);
        x.row(-1, CASH, 5).is(false);
        x.row(MIN, CASH, 5).is(false);
        x.row(MAX, CASH, 5).is(false);
    }

    @Says(promise = 4, words = "false when there is no such batch or account")
    static void noSuchAccount(CheckedLedger x) {
        x.batch(1);
        x.row(1, 1, 5).is(false);
        x.openOffice();
        x.row(1, 0, 5).is(false);
        x.row(1, 5, 5).is(false);
        x.row(1, -1, 5).is(false);
        x.row(1, MIN, 5).is(false);
        x.row(1, MAX, 5).is(false);
    }

    @Says(promise = 4, words = "it is not open")
    static void batchPosted(CheckedLedger x) {
        x.openOffice();
        x.move(1, CASH, OTHER, 5);
        x.row(1, CASH, 5).is(false);
        x.rows().is(2);
        x.balance(CASH, 1).is(-5);
    }

    @Says(promise = 4, words = "it is not open")
    static void batchVoidAsRefused(CheckedLedger x) {
        x.openOffice();
        x.batch(1);
        x.post(1).isRefusedByThrowing();
        x.row(1, CASH, -5).is(false);
        x.hold(CASH).is(0);
    }

    @Says(promise = 4, words = "it is not open")
    static void batchVoidAsFailed(CheckedLedger x) {
        x.openOffice();
        int batch = x.fail(1, CASH, OTHER, 5);
        x.row(batch, CASH, -5).is(false);
        x.hold(CASH).is(0);
    }

    @Says(promise = 4, words = "it is not open")
    static void batchesOfReverseAndStock(CheckedLedger x) {
        x.openOffice();
        x.move(1, CASH, OTHER, 5);
        x.reverse(1).is(1);
        x.stock(0, 0, 3).is(3);
        x.row(2, CASH, -5).is(false);
        x.row(3, CASH, -5).is(false);
        x.batch(1).is(4);
    }

    @Says(promise = 4, words = "stay open")
    static void openBatchOfClosedDay(CheckedLedger x) {
        x.openOffice();
        x.batch(1);
        x.close(1);
        x.row(1, CASH, -5).is(true);
        x.hold(CASH).is(5);
    }

    @Says(promise = 4, words = "cents are 0")
    static void centsZero(CheckedLedger x) {
        x.openOffice();
        x.batch(1);
        x.row(1, CASH, 0).is(false);
        x.post(1).isRefusedByThrowing();
    }

    @Says(promise = 4, words = "not -10^8 .. 10^8")
    static void centsTooSmall(CheckedLedger x) {
        x.openOffice();
        x.batch(1);
        x.row(1, CASH, -MOST - 1).is(false);
        x.row(1, CASH, MIN_LONG).is(false);
        x.hold(CASH).is(0);
    }

    @Says(promise = 4, words = "not -10^8 .. 10^8")
    static void centsTooLarge(CheckedLedger x) {
        x.openOffice();
        x.batch(1);
        x.row(1, CASH, MOST + 1).is(false);
        x.row(1, CASH, MAX_LONG).is(false);
        x.post(1).isRefusedByThrowing();
    }

    @Says(promise = 4, words = "not -10^8 .. 10^8")
    static void centsThatWouldWrapAround(CheckedLedger x) {
        x.openOffice();
        x.batch(1);
        x.row(1, CASH, WRAP).is(false);
        x.row(1, CASH, WRAP + 5).is(false);
        x.row(1, CASH, -WRAP - 5).is(false);
        x.hold(CASH).is(0);
    }

    @Says(promise = 4, words = "not -10^8 .. 10^8")
    static void centsSmallestAndLargest(CheckedLedger x) {
        x.openOffice();
        x.batch(1);
        x.row(1, CASH, -MOST).is(true);
        x.row(1, OTHER, MOST).is(true);
        x.post(1).is(1);
        x.balance(CASH, 1).is(-MOST);
        x.balance(OTHER, 1).is(MOST);
    }

    @Says(promise = 4, words = "not -10^8 .. 10^8")
    static void centsOfOne(CheckedLedger x) {
        x.openOffice();
        x.batch(1);
        x.row(1, CASH, -1).is(true);
        x.row(1, OTHER, 1).is(true);
        x.post(1).is(1);
        x.balance(OTHER, 1).is(1);
    }

    @Says(promise = 4, words = "or it has 12")
    static void batchFull(CheckedLedger x) {
        x.openOffice();
        x.batch(1);
        for (int row = 1; row <= 12; row++) {
            x.row(1, CASH, row % 2 == 0 ? 4 : -4).is(true);
        }
        x.row(1, CASH, -4).is(false);
        x.row(1, OTHER, 4).is(false);
        x.hold(CASH).is(24);
        x.post(1).is(1);
        x.rows().is(12);
    }

    @Says(promise = 4, words = "each has up to 12 ROWS")
    static void fullBatchLeavesOthersTheirRoom(CheckedLedger x) {
        x.openOffice();
        x.batch(1);
        x.batch(1);
        for (int row = 1; row <= 12; row++) {
            x.row(1, CASH, 4).is(true);
        }
        x.row(1, CASH, 4).is(false);
        x.row(2, CASH, -4).is(true);
    }

    @Says(promise = 4, words = "or it has 12")
    static void rowsThatWereNotTakenTakeNoRoom(CheckedLedger x) {
        x.openOffice();
        x.batch(1);
        for (int row = 1; row <= 12; row++) {
            x.row(1, 5, 4).is(false);
            x.row(1, CASH, 0).is(false);
            x.row(1, CASH, MOST + 1).is(false);
            x.row(1, CASH, row % 2 == 0 ? 4 : -4).is(true);
        }
        x.row(1, CASH, 4).is(false);
        x.post(1).is(1);
        x.rows().is(12);
    }
}
