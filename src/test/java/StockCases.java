/** Promise 9: counts. */
final class StockCases extends LedgerCases {
    private static final String GETS = "the first account of that office and kind gets it, "
        + "the first of that office and kind 5 gets it with the other sign";
    private static final String OUTSIDE_WORDS = "OUTSIDE (office, kind, counted not -10^8 .. 10^8)";
    private static final String MISSING = "the difference is not 0, and one of both accounts is not there";
    private static final String TOO_FAR = "it is above 10^9 without sign";

    @Says(promise = 9, words = "less what all its accounts of that kind have: the difference")
    static void moreThanThereWas(CheckedLedger x) {
        x.openOffice();
        x.stock(0, 0, 70).is(70);
        x.balance(CASH, 0).is(70);
        x.balance(DIFFERENCE, 0).is(-70);
        x.stock(0, 0, 75).is(5);
        x.balance(CASH, 0).is(75);
    }

    @Says(promise = 9, words = "less what all its accounts of that kind have: the difference")
    static void lessThanThereWas(CheckedLedger x) {
        x.openOffice();
        x.stock(0, 0, 70).is(70);
        x.stock(0, 0, -5).is(-75);
        x.balance(CASH, 0).is(-5);
        x.balance(DIFFERENCE, 0).is(5);
    }

    @Says(promise = 9, words = "If it is not 0, it is posted by a batch of two rows")
    static void noDifference(CheckedLedger x) {
        x.openOffice();
        x.stock(0, 0, 0).is(0);
        x.rows().is(0);
        x.batch(0).is(1);
        x.move(0, OTHER, CASH, 30);
        x.stock(0, 0, 30).is(0);
        x.rows().is(2);
        x.batch(0).is(3);
    }

    @Says(promise = 9, words = "it is posted by a batch of two rows")
    static void differenceOfOne(CheckedLedger x) {
        x.openOffice();
        x.stock(0, 0, 1).is(1);
        x.rows().is(2);
        x.stock(0, 0, 0).is(-1);
        x.rows().is(4);
        x.post(1).is(STATE);
        x.row(2, CASH, 1).is(false);
        x.batch(0).is(3);
    }

    @Says(promise = 9, words = "less what all its accounts of that kind have")
    static void allAccountsOfTheKindAreSummed(CheckedLedger x) {
        x.openOffice();
        int second = x.account(0, 0).number();
        int third = x.account(0, 0).number();
        x.move(0, OTHER, second, 40);
        x.move(0, OTHER, third, 2);
        x.stock(0, 0, 42).is(0);
        x.stock(0, 0, 50).is(8);
        x.balance(CASH, 0).is(8);
        x.balance(second, 0).is(40);
        x.balance(third, 0).is(2);
    }

    @Says(promise = 9, words = "in an office of a kind")
    static void otherOfficesAndKindsAreNotSummed(CheckedLedger x) {
        x.account(1, 0);
        x.account(0, 1);
        x.account(0, 0);
        x.account(0, 5);
        x.move(0, 4, 1, 40);
        x.move(0, 4, 2, 2);
        x.stock(0, 0, 50).is(50);
        x.balance(3, 0).is(50);
        x.balance(4, 0).is(-92);
    }

    @Says(promise = 9, words = GETS)
    static void firstAccountsOfTheOffice(CheckedLedger x) {
        x.account(1, 2);
        x.account(1, 5);
        x.account(0, 5);
        x.account(0, 2);
        x.account(0, 2);
        x.account(0, 5);
        x.stock(0, 2, 10).is(10);
        x.balance(4, 0).is(10);
        x.balance(3, 0).is(-10);
        for (int account : new int[] {1, 2, 5, 6}) {
            x.balance(account, 0).is(0);
        }
        x.stock(1, 2, -3).is(-3);
        x.balance(1, 0).is(-3);
        x.balance(2, 0).is(3);
    }

    @Says(promise = 9, words = "less what all its accounts of that kind have")
    static void rowsOfAllDaysAreSummed(CheckedLedger x) {
        x.openOffice();
        x.move(0, OTHER, CASH, 1);
        x.move(20000, OTHER, CASH, 10);
        x.stock(0, 0, 11).is(0);
    }

    @Says(promise = 9, words = "less what all its accounts of that kind have")
    static void openAndVoidBatchesAreNotSummed(CheckedLedger x) {
        x.openOffice();
        x.moving(0, CASH, OTHER, 1);
        x.moving(0, OTHER, CASH, 4);
        x.fail(0, OTHER, CASH, 10);
        x.stock(0, 0, 0).is(0);
    }

    @Says(promise = 9, words = OUTSIDE_WORDS)
    static void officeTooSmall(CheckedLedger x) {
        x.openOffice();
        x.stock(-1, 0, 0).is(OUTSIDE);
        x.stock(MIN, 0, 0).is(OUTSIDE);
    }

    @Says(promise = 9, words = OUTSIDE_WORDS)
    static void officeTooLarge(CheckedLedger x) {
        x.openOffice();
        x.stock(10, 0, 0).is(OUTSIDE);
        x.stock(MAX, 0, 0).is(OUTSIDE);
    }

    @Says(promise = 9, words = OUTSIDE_WORDS)
    static void everyOffice(CheckedLedger x) {
        for (int office = 0; office <= 9; office++) {
            x.account(office, 4);
            x.account(office, 5);
            x.stock(office, 4, office + 1).is(office + 1);
        }
        x.balance(1, 0).is(1);
        x.balance(19, 0).is(10);
    }

    @Says(promise = 9, words = "of a kind (0 .. 4)")
    static void kindTooSmall(CheckedLedger x) {
        x.openOffice();
        x.stock(0, -1, 0).is(OUTSIDE);
        x.stock(0, MIN, 0).is(OUTSIDE);
    }

    @Says(promise = 9, words = "of a kind (0 .. 4)")
    static void kindTooLarge(CheckedLedger x) {
        x.openOffice();
        x.stock(0, 5, 0).is(OUTSIDE);
        x.stock(0, 5, 7).is(OUTSIDE);
        x.stock(0, 6, 0).is(OUTSIDE);
        x.stock(0, MAX, 0).is(OUTSIDE);
    }

    @Says(promise = 9, words = "of a kind (0 .. 4)")
    static void everyKind(CheckedLedger x) {
        for (int kind = 0; kind <= 5; kind++) {
            x.account(0, kind);
        }
        for (int kind = 0; kind <= 4; kind++) {
            x.stock(0, kind, kind + 1).is(kind + 1);
            x.balance(kind + 1, 0).is(kind + 1);
        }
        x.balance(6, 0).is(-15);
    }

    @Says(promise = 9, words = OUTSIDE_WORDS)
    static void countedTooSmall(CheckedLedger x) {
        x.openOffice();
        x.stock(0, 0, -MOST - 1).is(OUTSIDE);
        x.stock(0, 0, MIN_LONG).is(OUTSIDE);
        x.rows().is(0);
    }

    @Says(promise = 9, words = OUTSIDE_WORDS)
    static void countedTooLarge(CheckedLedger x) {
        x.openOffice();
        x.stock(0, 0, MOST + 1).is(OUTSIDE);
        x.stock(0, 0, MAX_LONG).is(OUTSIDE);
        x.rows().is(0);
    }

    @Says(promise = 9, words = OUTSIDE_WORDS)
    static void countedThatWouldWrapAround(CheckedLedger x) {
        x.openOffice();
        x.stock(0, 0, WRAP).is(OUTSIDE);
        x.stock(0, 0, WRAP + 5).is(OUTSIDE);
        x.stock(0, 0, 5 - WRAP).is(OUTSIDE);
        x.rows().is(0);
    }

    @Says(promise = 9, words = OUTSIDE_WORDS)
    static void countedSmallestAndLargest(CheckedLedger x) {
        x.openOffice();
        x.stock(0, 0, MOST).is(MOST);
        x.stock(0, 0, -MOST).is(-2 * MOST);
        x.balance(CASH, 0).is(-MOST);
        x.balance(DIFFERENCE, 0).is(MOST);
    }

    @Says(promise = 9, words = MISSING)
    static void noAccountOfTheKind(CheckedLedger x) {
        x.openOffice();
        x.account(1, 2);
        x.stock(0, 2, 5).is(STATE);
        x.rows().is(0);
        x.batch(0).is(1);
    }

    @Says(promise = 9, words = MISSING)
    static void noAccountOfDifferences(CheckedLedger x) {
        x.openOffice();
        x.account(1, 2);
        x.stock(1, 2, 5).is(STATE);
        x.rows().is(0);
        x.batch(0).is(1);
    }

    @Says(promise = 9, words = MISSING)
    static void neitherAccountButNoDifference(CheckedLedger x) {
        x.stock(9, 4, 0).is(0);
        x.stock(9, 4, 1).is(STATE);
        x.account(9, 4);
        x.stock(9, 4, 0).is(0);
        x.stock(9, 4, 1).is(STATE);
        x.rows().is(0);
    }

    @Says(promise = 9, words = TOO_FAR)
    static void largestDifferences(CheckedLedger x) {
        tenHundredMillions(x);
        x.stock(0, 0, 0).is(-10 * MOST);
        x.stock(0, 1, 0).is(10 * MOST);
        x.balance(CASH, 5).is(0);
        x.balance(OTHER, 5).is(0);
        x.balance(DIFFERENCE, 5).is(0);
        x.reverse(21).is(1);
        x.balance(CASH, 5).is(10 * MOST);
    }

    @Says(promise = 9, words = TOO_FAR)
    static void differenceBelowTheSmallest(CheckedLedger x) {
        tenHundredMillions(x);
        x.stock(0, 0, -1).is(STATE);
        x.stock(0, 0, -MOST).is(STATE);
        x.rows().is(20);
        x.balance(CASH, LAST).is(10 * MOST);
    }

    @Says(promise = 9, words = TOO_FAR)
    static void differenceAboveTheLargest(CheckedLedger x) {
        tenHundredMillions(x);
        x.stock(0, 1, 1).is(STATE);
        x.stock(0, 1, MOST).is(STATE);
        x.rows().is(20);
        x.balance(OTHER, LAST).is(-10 * MOST);
    }

    /** The accounts have 2^32 and -2^32, which are 0 when they are cut down to an int. */
    @Says(promise = 9, words = TOO_FAR)
    static void differenceThatWouldWrapAround(CheckedLedger x) {
        x.openOffice();
        for (int i = 0; i < 7; i++) {
            x.moveSixLargest(5, OTHER, CASH);
        }
        x.move(5, OTHER, CASH, WRAP - 42 * MOST);
        x.balance(CASH, 5).is(WRAP);
        x.stock(0, 0, 0).is(STATE);
        x.stock(0, 0, 7).is(STATE);
        x.stock(0, 1, 0).is(STATE);
        x.stock(0, 1, -7).is(STATE);
        x.rows().is(86);
    }

    @Says(promise = 9, words = "ROOM (no batch more)")
    static void asTheLastBatch(CheckedLedger x) {
        x.openOffice();
        x.fillBatches(299);
        x.stock(0, 0, 5).is(5);
        x.balance(CASH, 0).is(5);
        x.batch(0).is(ROOM);
    }

    @Says(promise = 9, words = "ROOM (no batch more)")
    static void batchesFull(CheckedLedger x) {
        x.openOffice();
        x.fillBatches(300);
        x.stock(0, 0, 5).is(ROOM);
        x.balance(CASH, LAST).is(0);
        x.balance(DIFFERENCE, LAST).is(0);
        x.rows().is(0);
    }

    @Says(promise = 9, words = "ROOM (no batch more)")
    static void noDifferenceNeedsNoRoom(CheckedLedger x) {
        x.openOffice();
        x.fillBatches(300);
        x.stock(0, 0, 0).is(0);
        x.stock(9, 0, 0).is(0);
    }

    @Says(promise = 9, words = "of several the first one here")
    static void outsideComesBeforeState(CheckedLedger x) {
        x.account(0, 0);
        x.stock(0, 0, MOST + 1).is(OUTSIDE);
        x.stock(10, 0, 5).is(OUTSIDE);
        x.stock(0, 5, 5).is(OUTSIDE);
    }

    @Says(promise = 9, words = "of several the first one here")
    static void outsideAndStateComeBeforeRoom(CheckedLedger x) {
        x.openOffice();
        x.fillBatches(300);
        x.stock(-1, 0, 5).is(OUTSIDE);
        x.stock(0, 5, 5).is(OUTSIDE);
        x.stock(0, 0, MOST + 1).is(OUTSIDE);
        x.stock(0, 2, 5).is(STATE);
        x.stock(1, 0, 5).is(STATE);
    }

    @Says(promise = 9, words = "of several the first one here")
    static void differenceTooFarComesBeforeRoom(CheckedLedger x) {
        tenHundredMillions(x);
        x.fillBatches(300);
        x.stock(0, 0, -1).is(STATE);
        x.stock(0, 1, 1).is(STATE);
        x.stock(0, 0, 0).is(ROOM);
    }

    @Says(promise = 9, words = "on the first day that is not closed")
    static void onTheFirstDayWhenNoneIsClosed(CheckedLedger x) {
        x.openOffice();
        x.stock(0, 0, 70).is(70);
        x.balance(CASH, -1).is(0);
        x.balance(CASH, 0).is(70);
    }

    @Says(promise = 9, words = "on the first day that is not closed")
    static void onTheDayBehindTheClosedOnes(CheckedLedger x) {
        x.openOffice();
        x.close(8);
        x.stock(0, 0, 70).is(70);
        x.balance(CASH, 8).is(0);
        x.balance(DIFFERENCE, 8).is(0);
        x.balance(CASH, 9).is(70);
        x.balance(DIFFERENCE, 9).is(-70);
    }

    @Says(promise = 9, words = "on the first day that is not closed")
    static void behindTheLastDayWhenAllAreClosed(CheckedLedger x) {
        x.openOffice();
        x.close(LAST);
        x.stock(0, 0, 70).is(70);
        x.balance(CASH, 20000).is(0);
        x.balance(CASH, 20001).is(70);
    }

    @Says(promise = 9, words = "(limits do not count)")
    static void belowALimit(CheckedLedger x) {
        x.openOffice();
        x.stock(0, 3, -6).is(-6);
        x.balance(CUSTOMER, 0).is(-6);
        x.balance(DIFFERENCE, 0).is(6);
    }

    /** Office 0 has 10^9 of kind 0 and -10^9 of kind 1, by 20 rows. */
    private static void tenHundredMillions(CheckedLedger x) {
        x.openOffice();
        for (int batch = 1; batch <= 2; batch++) {
            x.batch(5).is(batch);
            for (int pair = 0; pair < 5; pair++) {
                x.row(batch, CASH, MOST);
                x.row(batch, OTHER, -MOST);
            }
            x.post(batch).is(1);
        }
        x.balance(CASH, 5).is(10 * MOST);
    }
}
