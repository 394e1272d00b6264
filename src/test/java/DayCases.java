/** Promises 6 and 7: balances of days, and days that are closed. */
final class DayCases extends LedgerCases {
    @Says(promise = 6, words = "An account's BALANCE, of days up to one")
    static void dayBeforeDayItselfAndDayBehind(CheckedLedger x) {
        x.openOffice();
        x.move(7, CASH, OTHER, 10);
        x.balance(CASH, 6).is(0);
        x.balance(CASH, 7).is(-10);
        x.balance(CASH, 8).is(-10);
    }

    @Says(promise = 6, words = "An account's BALANCE, of days up to one")
    static void daysPostedInAnotherOrder(CheckedLedger x) {
        x.openOffice();
        x.move(9, CASH, OTHER, 100);
        x.move(0, CASH, OTHER, 1);
        x.move(7, CASH, OTHER, 10);
        x.move(7, CASH, OTHER, 10);
        x.balance(CASH, 0).is(-1);
        x.balance(CASH, 6).is(-1);
        x.balance(CASH, 7).is(-21);
        x.balance(CASH, 8).is(-21);
        x.balance(OTHER, 9).is(121);
    }

    @Says(promise = 6, words = "An account's BALANCE, of days up to one")
    static void firstDayAndLastDay(CheckedLedger x) {
        x.openOffice();
        x.move(0, CASH, OTHER, 1);
        x.move(20000, CASH, OTHER, 10);
        x.balance(CASH, 0).is(-1);
        x.balance(CASH, 19999).is(-1);
        x.balance(CASH, 20000).is(-11);
    }

    @Says(promise = 6, words = "An account's BALANCE, of days up to one")
    static void daysBeforeTheFirst(CheckedLedger x) {
        x.openOffice();
        x.move(0, CASH, OTHER, 1);
        x.balance(CASH, -1).is(0);
        x.balance(CASH, MIN_LONG).is(0);
    }

    @Says(promise = 6, words = "An account's BALANCE, of days up to one")
    static void daysBehindTheLast(CheckedLedger x) {
        x.openOffice();
        x.move(20000, CASH, OTHER, 1);
        x.balance(CASH, 20001).is(-1);
        x.balance(CASH, MAX_LONG).is(-1);
    }

    @Says(promise = 6, words = "An account's BALANCE, of days up to one")
    static void daysThatWouldWrapAround(CheckedLedger x) {
        x.openOffice();
        x.move(7, CASH, OTHER, 1);
        x.balance(CASH, WRAP).is(-1);
        x.balance(CASH, WRAP - 1).is(-1);
        x.balance(CASH, 9 - WRAP).is(0);
    }

    @Says(promise = 6, words = "the sum of its rows in posted batches")
    static void accountWithoutRows(CheckedLedger x) {
        x.openOffice();
        x.move(7, CASH, OTHER, 1);
        x.balance(CUSTOMER, LAST).is(0);
        x.balance(DIFFERENCE, 0).is(0);
    }

    @Says(promise = 6, words = "the sum of its rows in posted batches")
    static void openAndVoidBatchesDoNotCount(CheckedLedger x) {
        x.openOffice();
        x.moving(7, CASH, OTHER, 1);
        x.fail(7, CASH, OTHER, 10);
        x.post(x.moving(7, CUSTOMER, OTHER, 100)).isRefusedByThrowing();
        x.balance(CASH, LAST).is(0);
        x.balance(OTHER, LAST).is(0);
        x.balance(CUSTOMER, LAST).is(0);
    }

    @Says(promise = 6, words = "the sum of its rows in posted batches")
    static void allRowsOfABatchCount(CheckedLedger x) {
        x.openOffice();
        x.batch(7);
        x.row(1, CASH, -10);
        x.row(1, OTHER, 4);
        x.row(1, CASH, 3);
        x.row(1, OTHER, 5);
        x.row(1, CASH, -2);
        x.post(1).is(1);
        x.balance(CASH, 7).is(-9);
        x.balance(OTHER, 7).is(9);
    }

    @Says(promise = 6, words = "the sum of its rows in posted batches")
    static void balanceTooLargeForAnInt(CheckedLedger x) {
        x.openOffice();
        for (int i = 0; i < 8; i++) {
            x.moveSixLargest(7, CASH, OTHER);
        }
        x.balance(OTHER, 7).is(48 * MOST);
        x.balance(CASH, 7).is(-48 * MOST);
        x.all().is(0);
    }

    @Says(promise = 6, words = "UNKNOWN (there is no such account, batch)")
    static void balanceOfNoAccount(CheckedLedger x) {
        x.balance(1, 7).is(UNKNOWN);
        x.openOffice();
        x.balance(0, 7).is(UNKNOWN);
        x.balance(5, 7).is(UNKNOWN);
        x.balance(-1, -1).is(UNKNOWN);
        x.balance(MIN, 7).is(UNKNOWN);
        x.balance(MAX, MAX_LONG).is(UNKNOWN);
    }

    @Says(promise = 7, words = "All days up to one are CLOSED: how many more than before")
    static void firstDayAlone(CheckedLedger x) {
        x.close(0).is(1);
        x.batch(0).is(STATE);
        x.batch(1).is(1);
    }

    @Says(promise = 7, words = "All days up to one are CLOSED: how many more than before")
    static void moreThanBefore(CheckedLedger x) {
        x.close(5).is(6);
        x.close(6).is(1);
        x.close(9).is(3);
        x.batch(9).is(STATE);
        x.batch(10).is(1);
    }

    @Says(promise = 7, words = "how many more than before")
    static void sameDayAgain(CheckedLedger x) {
        x.close(5).is(6);
        x.close(5).is(0);
        x.batch(6).is(1);
    }

    @Says(promise = 7, words = "how many more than before")
    static void earlierDayOpensNone(CheckedLedger x) {
        x.close(5).is(6);
        x.close(3).is(0);
        x.close(0).is(0);
        x.batch(4).is(STATE);
        x.batch(5).is(STATE);
        x.close(6).is(1);
    }

    @Says(promise = 7, words = "All days up to one are CLOSED: how many more than before")
    static void lastDay(CheckedLedger x) {
        x.close(19999).is(20000);
        x.batch(20000).is(1);
        x.close(20000).is(1);
        x.close(20000).is(0);
        x.batch(20000).is(STATE);
    }

    @Says(promise = 7, words = "OUTSIDE (not 0 .. 20000)")
    static void closedDayTooSmall(CheckedLedger x) {
        x.close(-1).is(OUTSIDE);
        x.close(MIN_LONG).is(OUTSIDE);
    }

    @Says(promise = 7, words = "OUTSIDE (not 0 .. 20000)")
    static void closedDayTooLarge(CheckedLedger x) {
        x.close(20001).is(OUTSIDE);
        x.close(MAX_LONG).is(OUTSIDE);
        x.close(20000).is(20001);
        x.close(20001).is(OUTSIDE);
    }

    @Says(promise = 7, words = "OUTSIDE (not 0 .. 20000)")
    static void closedDayThatWouldWrapAround(CheckedLedger x) {
        x.close(WRAP).is(OUTSIDE);
        x.close(WRAP + 5).is(OUTSIDE);
        x.close(5 - WRAP).is(OUTSIDE);
    }

    @Says(promise = 7, words = "A call that is refused changes nothing.")
    static void refusedCloseClosesNoDay(CheckedLedger x) {
        x.close(20001).is(OUTSIDE);
        x.close(-1).is(OUTSIDE);
        x.close(WRAP + 5).is(OUTSIDE);
        x.batch(0).is(1);
        x.close(0).is(1);
        x.close(-1).is(OUTSIDE);
        x.batch(0).is(STATE);
    }

    @Says(promise = 7, words = "nothing is posted on them any more")
    static void whatWasPostedStays(CheckedLedger x) {
        x.openOffice();
        x.move(5, CASH, OTHER, 30);
        x.moving(5, CASH, OTHER, 4);
        x.close(5).is(6);
        x.balance(CASH, 5).is(-30);
        x.rows().is(2);
        x.hold(CASH).is(4);
    }

    @Says(promise = 7, words = "nothing is posted on them any more")
    static void nothingMoreOnClosedDays(CheckedLedger x) {
        x.openOffice();
        x.move(5, CASH, OTHER, 30);
        int open = x.moving(5, CASH, OTHER, 4);
        x.close(5);
        x.batch(5).is(STATE);
        x.post(open).is(STATE);
        x.reverse(1).is(1);
        x.stock(0, 0, 7).is(7);
        x.balance(CASH, 5).is(-30);
        x.balance(CASH, 6).is(7);
    }
}
