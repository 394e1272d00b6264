/** Promise 10, and what limits do to posting (promise 5). */
final class LimitCases extends LedgerCases {
    private static final String REFUSED_BELOW = "if one of its rows takes from a customer's account and the balance "
        + "(of all days) is below minus its limit when that is in the books";

    @Says(promise = 5, words = REFUSED_BELOW)
    static void downToZeroWithoutALimit(CheckedLedger x) {
        x.openOffice();
        x.move(5, CASH, CUSTOMER, 30);
        x.move(5, CUSTOMER, CASH, 30);
        x.balance(CUSTOMER, 5).is(0);
    }

    @Says(promise = 5, words = REFUSED_BELOW)
    static void oneBelowZeroWithoutALimit(CheckedLedger x) {
        x.openOffice();
        x.move(5, CASH, CUSTOMER, 30);
        x.post(x.moving(5, CUSTOMER, CASH, 31)).isRefusedByThrowing();
        x.balance(CUSTOMER, 5).is(30);
    }

    @Says(promise = 5, words = REFUSED_BELOW)
    static void downToMinusTheLimit(CheckedLedger x) {
        x.openOffice();
        x.limit(CUSTOMER, 10);
        x.move(5, CUSTOMER, CASH, 10);
        x.balance(CUSTOMER, 5).is(-10);
    }

    @Says(promise = 5, words = REFUSED_BELOW)
    static void oneBelowMinusTheLimit(CheckedLedger x) {
        x.openOffice();
        x.limit(CUSTOMER, 10);
        x.post(x.moving(5, CUSTOMER, CASH, 11)).isRefusedByThrowing();
        x.balance(CUSTOMER, 5).is(0);
    }

    @Says(promise = 5, words = REFUSED_BELOW)
    static void largestLimit(CheckedLedger x) {
        x.openOffice();
        x.limit(CUSTOMER, MOST);
        x.move(5, CUSTOMER, CASH, MOST);
        x.post(x.moving(5, CUSTOMER, CASH, 1)).isRefusedByThrowing();
        x.balance(CUSTOMER, 5).is(-MOST);
    }

    @Says(promise = 5, words = REFUSED_BELOW)
    static void everyCustomerHasALimitOfItsOwn(CheckedLedger x) {
        x.openOffice();
        int second = x.account(7, 3).number();
        x.limit(CUSTOMER, 10);
        x.post(x.moving(5, second, CASH, 1)).isRefusedByThrowing();
        x.move(5, CUSTOMER, CASH, 10);
        x.limit(second, 4);
        x.move(5, second, CASH, 4);
        x.post(x.moving(5, CUSTOMER, CASH, 1)).isRefusedByThrowing();
    }

    @Says(promise = 5, words = "kind 3 are CUSTOMERS', with a LIMIT")
    static void otherKindsHaveNoLimitLookedAt(CheckedLedger x) {
        int customer = x.account(0, 3).number();
        for (int kind = 0; kind <= 5; kind++) {
            int account = x.account(0, kind).number();
            x.limit(account, 0);
            int batch = x.moving(5, account, customer, 50);
            if (kind == 3) {
                x.post(batch).isRefusedByThrowing();
            } else {
                x.post(batch).is(1);
            }
        }
        x.balance(customer, 5).is(250);
    }

    @Says(promise = 5, words = REFUSED_BELOW)
    static void balanceOfLaterDaysCountsAgainstIt(CheckedLedger x) {
        x.openOffice();
        x.limit(CUSTOMER, 10);
        x.move(9, CUSTOMER, CASH, 10);
        x.balance(CUSTOMER, 5).is(0);
        x.post(x.moving(5, CUSTOMER, CASH, 1)).isRefusedByThrowing();
    }

    @Says(promise = 5, words = REFUSED_BELOW)
    static void balanceOfLaterDaysCountsForIt(CheckedLedger x) {
        x.openOffice();
        x.move(9, CASH, CUSTOMER, 10);
        x.move(5, CUSTOMER, CASH, 10);
        x.balance(CUSTOMER, 5).is(-10);
        x.balance(CUSTOMER, 9).is(0);
    }

    @Says(promise = 5, words = "its rows are gone through in order and put into the books one by one")
    static void whatComesBehindTheRowDoesNotHelp(CheckedLedger x) {
        x.openOffice();
        x.post(x.moving(5, CUSTOMER, CUSTOMER, 3)).isRefusedByThrowing();
        x.rows().is(0);
    }

    @Says(promise = 5, words = "its rows are gone through in order and put into the books one by one")
    static void whatComesBeforeTheRowHelps(CheckedLedger x) {
        x.openOffice();
        x.batch(5);
        x.row(1, CUSTOMER, 3);
        x.row(1, CUSTOMER, -3);
        x.post(1).is(1);
        x.rows().is(2);
    }

    @Says(promise = 5, words = "its rows are gone through in order and put into the books one by one")
    static void whatTheBatchTookBeforeCounts(CheckedLedger x) {
        x.openOffice();
        x.limit(CUSTOMER, 10);
        x.batch(5);
        x.row(1, CUSTOMER, -6);
        x.row(1, CUSTOMER, -5);
        x.row(1, CASH, 11);
        x.post(1).isRefusedByThrowing();
        x.batch(5);
        x.row(2, CUSTOMER, -6);
        x.row(2, CUSTOMER, -4);
        x.row(2, CASH, 10);
        x.post(2).is(1);
    }

    @Says(promise = 5, words = "its rows are gone through in order and put into the books one by one")
    static void whatTheBatchDoesToOtherCustomersDoesNotCount(CheckedLedger x) {
        x.openOffice();
        int second = x.account(0, 3).number();
        x.limit(CUSTOMER, 6);
        x.batch(5);
        x.row(1, CUSTOMER, -6);
        x.row(1, second, 6);
        x.row(1, second, -6);
        x.row(1, CASH, 6);
        x.post(1).is(1);
        x.post(x.moving(5, second, CASH, 1)).isRefusedByThrowing();
    }

    @Says(promise = 5, words = "if one of its rows takes from a customer's account")
    static void rowThatGivesIsNotLookedAt(CheckedLedger x) {
        x.openOffice();
        x.limit(CUSTOMER, 10);
        x.move(5, CUSTOMER, CASH, 10);
        x.limit(CUSTOMER, 0);
        x.move(5, CASH, CUSTOMER, 4);
        x.balance(CUSTOMER, 5).is(-6);
        x.post(x.moving(5, CUSTOMER, CASH, 1)).isRefusedByThrowing();
    }

    @Says(promise = 5, words = "when that is in the books")
    static void holdsOfOtherBatchesAreNotInTheBooks(CheckedLedger x) {
        x.openOffice();
        x.move(5, CASH, CUSTOMER, 10);
        int first = x.moving(5, CUSTOMER, CASH, 10);
        x.move(5, CUSTOMER, CASH, 10);
        x.post(first).isRefusedByThrowing();
        x.balance(CUSTOMER, 5).is(0);
    }

    @Says(promise = 5, words = "Refused or failing, none of its rows are in the books")
    static void rowsOfVoidBatchesAreNotInTheBooks(CheckedLedger x) {
        x.openOffice();
        x.fail(5, CASH, CUSTOMER, 10);
        x.post(x.moving(5, CUSTOMER, CASH, 1)).isRefusedByThrowing();
        x.limit(CUSTOMER, 1);
        x.move(5, CUSTOMER, CASH, 1);
    }

    @Says(promise = 5, words = "If it FAILS by plan, that is behind its first row.")
    static void firstRowIsLookedAtBeforeItFails(CheckedLedger x) {
        x.openOffice();
        int batch = x.moving(5, CUSTOMER, CASH, 1);
        x.fails(batch, true);
        x.post(batch).isRefusedByThrowing();
        x.post(batch).is(STATE);
        x.hold(CUSTOMER).is(0);
    }

    @Says(promise = 5, words = "If it FAILS by plan, that is behind its first row.")
    static void secondRowIsNotLookedAtAsItFailsBefore(CheckedLedger x) {
        x.openOffice();
        x.batch(5);
        x.row(1, CASH, 1);
        x.row(1, CUSTOMER, -1);
        x.fails(1, true);
        x.post(1).is(0);
        x.hold(CUSTOMER).is(0);
        x.balance(CASH, 5).is(0);
    }

    @Says(promise = 5, words = REFUSED_BELOW)
    static void balanceTooLargeForAnIntIsNotBelow(CheckedLedger x) {
        x.openOffice();
        for (int i = 0; i < 4; i++) {
            x.moveSixLargest(5, CASH, CUSTOMER);
        }
        x.move(5, CUSTOMER, CASH, 1);
        x.balance(CUSTOMER, 5).is(24 * MOST - 1);
    }

    @Says(promise = 5, words = REFUSED_BELOW)
    static void balanceTooSmallForAnIntIsBelow(CheckedLedger x) {
        x.openOffice();
        for (int i = 0; i < 4; i++) {
            x.moveSixLargest(5, CASH, CUSTOMER);
        }
        for (int i = 0; i < 4; i++) {
            x.moveSixLargest(5, CUSTOMER, CASH);
        }
        for (int i = 0; i < 4; i++) {
            x.reverse(1 + 12 * i).is(1);
        }
        x.balance(CUSTOMER, 5).is(-24 * MOST);
        x.limit(CUSTOMER, MOST);
        x.post(x.moving(5, CUSTOMER, CASH, 1)).isRefusedByThrowing();
    }

    @Says(promise = 10, words = "An account's LIMIT from now on: that before")
    static void limitBefore(CheckedLedger x) {
        x.openOffice();
        x.limit(CUSTOMER, 7).is(0);
        x.limit(CUSTOMER, 7).is(7);
        x.limit(CUSTOMER, 9).is(7);
        x.limit(CUSTOMER, 0).is(9);
        x.limit(CUSTOMER, 1).is(0);
    }

    @Says(promise = 10, words = "An account's LIMIT from now on: that before")
    static void limitOfOneAccountAlone(CheckedLedger x) {
        x.openOffice();
        x.account(0, 3).is(5);
        x.limit(CUSTOMER, 7).is(0);
        x.limit(5, 8).is(0);
        x.limit(CUSTOMER, 0).is(7);
        x.limit(5, 0).is(8);
    }

    @Says(promise = 10, words = "An account's LIMIT from now on: that before")
    static void limitOfAccountsOfEveryKind(CheckedLedger x) {
        for (int kind = 0; kind <= 5; kind++) {
            int account = x.account(0, kind).number();
            x.limit(account, 3).is(0);
            x.limit(account, 0).is(3);
        }
    }

    @Says(promise = 10, words = "from now on")
    static void limitRaisedBeforePosting(CheckedLedger x) {
        x.openOffice();
        int batch = x.moving(5, CUSTOMER, CASH, 9);
        x.limit(CUSTOMER, 9);
        x.post(batch).is(1);
    }

    @Says(promise = 10, words = "from now on")
    static void limitLoweredBeforePosting(CheckedLedger x) {
        x.openOffice();
        x.limit(CUSTOMER, 9);
        int batch = x.moving(5, CUSTOMER, CASH, 9);
        x.limit(CUSTOMER, 8);
        x.post(batch).isRefusedByThrowing();
    }

    @Says(promise = 10, words = "from now on")
    static void limitLoweredBehindPosting(CheckedLedger x) {
        x.openOffice();
        x.limit(CUSTOMER, 9);
        x.move(5, CUSTOMER, CASH, 9);
        x.limit(CUSTOMER, 0).is(9);
        x.balance(CUSTOMER, 5).is(-9);
    }

    @Says(promise = 10, words = "UNKNOWN (there is no such account, batch)")
    static void limitOfNoAccount(CheckedLedger x) {
        x.limit(1, 5).is(UNKNOWN);
        x.openOffice();
        x.limit(0, 5).is(UNKNOWN);
        x.limit(5, 5).is(UNKNOWN);
        x.limit(-1, 5).is(UNKNOWN);
        x.limit(MIN, 5).is(UNKNOWN);
        x.limit(MAX, 5).is(UNKNOWN);
    }

    @Says(promise = 10, words = "OUTSIDE (not 0 .. 10^8)")
    static void limitTooSmall(CheckedLedger x) {
        x.openOffice();
        x.limit(CUSTOMER, -1).is(OUTSIDE);
        x.limit(CUSTOMER, -MOST).is(OUTSIDE);
        x.limit(CUSTOMER, MIN_LONG).is(OUTSIDE);
    }

    @Says(promise = 10, words = "OUTSIDE (not 0 .. 10^8)")
    static void limitTooLarge(CheckedLedger x) {
        x.openOffice();
        x.limit(CUSTOMER, MOST + 1).is(OUTSIDE);
        x.limit(CUSTOMER, MAX_LONG).is(OUTSIDE);
    }

    @Says(promise = 10, words = "OUTSIDE (not 0 .. 10^8)")
    static void limitThatWouldWrapAround(CheckedLedger x) {
        x.openOffice();
        x.limit(CUSTOMER, WRAP).is(OUTSIDE);
        x.limit(CUSTOMER, WRAP + 5).is(OUTSIDE);
        x.limit(CUSTOMER, 5 - WRAP).is(OUTSIDE);
    }

    @Says(promise = 10, words = "OUTSIDE (not 0 .. 10^8)")
    static void limitSmallestAndLargest(CheckedLedger x) {
        x.openOffice();
        x.limit(CUSTOMER, MOST).is(0);
        x.limit(CUSTOMER, 0).is(MOST);
        x.limit(CUSTOMER, 0).is(0);
    }

    @Says(promise = 10, words = "A call that is refused changes nothing.")
    static void refusedLimitLeavesTheOneBefore(CheckedLedger x) {
        x.openOffice();
        x.limit(CUSTOMER, 7);
        x.limit(CUSTOMER, -1).is(OUTSIDE);
        x.limit(CUSTOMER, MOST + 1).is(OUTSIDE);
        x.post(x.moving(5, CUSTOMER, CASH, 8)).isRefusedByThrowing();
        x.move(5, CUSTOMER, CASH, 7);
        x.limit(CUSTOMER, 7).is(7);
    }

    @Says(promise = 10, words = "of several the first one here")
    static void unknownComesBeforeOutside(CheckedLedger x) {
        x.openOffice();
        x.limit(5, -1).is(UNKNOWN);
        x.limit(0, MOST + 1).is(UNKNOWN);
        x.limit(MIN, MIN_LONG).is(UNKNOWN);
    }
}
