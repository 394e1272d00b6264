/** Promises 1 and 2: a new object, and its accounts. */
final class AccountCases extends LedgerCases {
    @Says(promise = 1, words = "No accounts")
    static void newHasNoAccounts(CheckedLedger x) {
        x.balance(1, 0).is(UNKNOWN);
        x.hold(1).is(UNKNOWN);
        x.limit(1, 0).is(UNKNOWN);
        x.stock(0, 0, 1).is(STATE);
        x.batch(0).is(1);
        x.row(1, 1, 1).is(false);
    }

    @Says(promise = 1, words = "no day is closed")
    static void newHasNoDayClosed(CheckedLedger x) {
        x.batch(0).is(1);
        x.close(0).is(1);
    }

    @Says(promise = 1, words = "no day is closed")
    static void newHasAllDaysToClose(CheckedLedger x) {
        x.close(LAST).is(20001);
    }

    @Says(promise = 1, words = "BATCHES 1, 2, ..")
    static void newHasNoBatches(CheckedLedger x) {
        x.post(1).is(UNKNOWN);
        x.fails(1, true).is(false);
        x.account(0, 0);
        x.row(1, 1, 1).is(false);
    }

    @Says(promise = 1, words = "Rows of posted batches have NUMBERS 1, 2, ..")
    static void newHasNoRows(CheckedLedger x) {
        x.rows().is(0);
        x.all().is(0);
        x.reverse(0).is(0);
        x.reverse(1).is(0);
    }

    @Says(promise = 1, words = "No accounts; no day is closed.")
    static void newSharesNothingWithAnother(CheckedLedger x) {
        x.openOffice();
        x.move(0, CASH, OTHER, 5);
        x.close(LAST);
        CheckedLedger y = x.another();
        y.balance(1, 0).is(UNKNOWN);
        y.rows().is(0);
        y.batch(0).is(1);
        y.account(0, 0).is(1);
        y.balance(1, LAST).is(0);
    }

    @Says(promise = 2, words = "An account more: its number")
    static void accountsAreNumberedFromOne(CheckedLedger x) {
        x.account(4, 2).is(1);
        x.account(4, 2).is(2);
        x.account(0, 5).is(3);
        x.balance(3, 0).is(0);
        x.balance(4, 0).is(UNKNOWN);
        x.balance(0, 0).is(UNKNOWN);
    }

    @Says(promise = 2, words = "an office's (0 .. 9)")
    static void officeTooSmall(CheckedLedger x) {
        x.account(-1, 0).is(OUTSIDE);
        x.account(MIN, 0).is(OUTSIDE);
    }

    @Says(promise = 2, words = "an office's (0 .. 9)")
    static void officeTooLarge(CheckedLedger x) {
        x.account(10, 0).is(OUTSIDE);
        x.account(MAX, 0).is(OUTSIDE);
    }

    @Says(promise = 2, words = "an office's (0 .. 9)")
    static void everyOffice(CheckedLedger x) {
        for (int office = 0; office <= 9; office++) {
            x.account(office, 0).is(office + 1);
        }
    }

    @Says(promise = 2, words = "of a KIND 0 .. 5")
    static void kindTooSmall(CheckedLedger x) {
        x.account(0, -1).is(OUTSIDE);
        x.account(0, MIN).is(OUTSIDE);
    }

    @Says(promise = 2, words = "of a KIND 0 .. 5")
    static void kindTooLarge(CheckedLedger x) {
        x.account(0, 6).is(OUTSIDE);
        x.account(0, MAX).is(OUTSIDE);
    }

    @Says(promise = 2, words = "of a KIND 0 .. 5")
    static void everyKind(CheckedLedger x) {
        for (int kind = 0; kind <= 5; kind++) {
            x.account(0, kind).is(kind + 1);
        }
    }

    @Says(promise = 2, words = "A call that is refused changes nothing.")
    static void refusedAccountTakesNoNumber(CheckedLedger x) {
        x.account(10, 0).is(OUTSIDE);
        x.account(0, 6).is(OUTSIDE);
        x.balance(1, 0).is(UNKNOWN);
        x.account(0, 0).is(1);
    }

    @Says(promise = 2, words = "(60 at most)")
    static void accountsFull(CheckedLedger x) {
        fillAccounts(x, 59);
        x.account(9, 5).is(60);
        x.account(9, 5).is(ROOM);
        x.account(0, 0).is(ROOM);
        x.balance(61, 0).is(UNKNOWN);
    }

    @Says(promise = 2, words = "(60 at most)")
    static void lastAccountIsLikeAnyOther(CheckedLedger x) {
        fillAccounts(x, 60);
        x.move(3, 60, 59, 7);
        x.balance(60, 3).is(-7);
        x.balance(59, 3).is(7);
        x.limit(60, 1).is(0);
        x.hold(60).is(0);
        x.batch(3).is(2);
        x.row(2, 61, 7).is(false);
    }

    @Says(promise = 2, words = "of several the first one here")
    static void outsideComesBeforeRoom(CheckedLedger x) {
        fillAccounts(x, 60);
        x.account(10, 0).is(OUTSIDE);
        x.account(-1, 0).is(OUTSIDE);
        x.account(0, 6).is(OUTSIDE);
        x.account(0, -1).is(OUTSIDE);
    }

    @Says(promise = 2, words = "with a LIMIT (0 at first)")
    static void limitIsZeroAtFirst(CheckedLedger x) {
        x.openOffice();
        x.post(x.moving(3, CUSTOMER, CASH, 1)).isRefusedByThrowing();
        x.limit(CUSTOMER, 5).is(0);
    }

    private static void fillAccounts(CheckedLedger x, int inAll) {
        for (int number = 1; number <= inAll; number++) {
            x.account(number % 10, number % 6).is(number);
        }
    }
}
