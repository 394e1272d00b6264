/** The document's promises one by one: ordinary inputs, the edges that it names, and wrong inputs. */
public final class PromisesTest {
    private static final int UNKNOWN = PostLedger.UNKNOWN, OUTSIDE = PostLedger.OUTSIDE;
    private static final int STATE = PostLedger.STATE, ROOM = PostLedger.ROOM;
    private static final long MOST = 100000000L;
    private static final int CASH = 1, CUSTOMER = 2, OTHER = 3, DIFFERENCE = 4;

    private static final Due due = new Due();

    public static void main(String[] args) {
        promise1NewObject();
        promise2Account();
        promise3Batch();
        promise3BatchRoom();
        promise4Row();
        promise4RowEdges();
        promise5Post();
        promise5PostUnbalanced();
        promise5PostLimits();
        promise5PostFailing();
        promise5PostOnClosedDay();
        promise6Balance();
        promise7Close();
        promise8Reverse();
        promise8ReverseDays();
        promise8ReverseIgnoresLimits();
        promise8ReverseRoom();
        promise9Stock();
        promise9StockAccounts();
        promise9StockRefusals();
        promise9StockLargest();
        promise9StockRoom();
        promise10Limit();
        promise11Fails();
        promise12Hold();
        promise13Rows();
        promise14All();
        due.endProgram("PromisesTest");
    }

    /** Office 0 has accounts 1 (kind 0), 2 (a customer's), 3 (kind 1) and 4 (differences). */
    private static PostLedger office() {
        PostLedger x = new PostLedger();
        x.account(0, 0);
        x.account(0, 3);
        x.account(0, 1);
        x.account(0, 5);
        return x;
    }

    /** An open batch that moves cents from one account to another; the row that takes comes first. */
    private static int moving(PostLedger x, long day, int from, int to, long cents) {
        int batch = x.batch(day);
        due.is("row(" + batch + ", " + from + ", -" + cents + ")", x.row(batch, from, -cents), true);
        due.is("row(" + batch + ", " + to + ", " + cents + ")", x.row(batch, to, cents), true);
        return batch;
    }

    private static void move(PostLedger x, long day, int from, int to, long cents) {
        postIs(x, moving(x, day, from, to, cents), 1);
    }

    private static void postIs(PostLedger x, int batch, long want) {
        due.is("post(" + batch + ")", Due.post(x, batch), want);
    }

    private static void balanceIs(PostLedger x, int account, long day, long want) {
        due.is("balance(" + account + ", " + day + ")", x.balance(account, day), want);
    }

    private static void holdIs(PostLedger x, int account, long want) {
        due.is("hold(" + account + ")", x.hold(account), want);
    }

    private static void fillBatches(PostLedger x, int upTo) {
        for (int number = x.batch(20000); number > 0 && number < upTo; ) {
            number = x.batch(20000);
        }
    }

    private static void promise1NewObject() {
        PostLedger x = new PostLedger();
        due.is("1: rows()", x.rows(), 0);
        due.is("1: all()", x.all(), 0);
        due.is("1: balance(1, 0)", x.balance(1, 0), UNKNOWN);
        due.is("1: hold(1)", x.hold(1), UNKNOWN);
        due.is("1: limit(1, 0)", x.limit(1, 0), UNKNOWN);
        due.is("1: post(1)", Due.post(x, 1), UNKNOWN);
        due.is("1: reverse(1)", x.reverse(1), 0);
        due.is("1: batch(0)", x.batch(0), 1);
        due.is("1: row(1, 1, 1)", x.row(1, 1, 1), false);
        due.is("1: account(0, 0) of another object", new PostLedger().account(0, 0), 1);
        due.is("1: account(0, 0)", x.account(0, 0), 1);
        balanceIs(x, 1, 20000, 0);
        holdIs(x, 1, 0);
        due.is("1: close(0)", x.close(0), 1);
    }

    private static void promise2Account() {
        PostLedger x = new PostLedger();
        int[][] wrongPairs = {{-1, 0}, {10, 0}, {0, -1}, {0, 6}, {Integer.MIN_VALUE, 0}, {0, Integer.MAX_VALUE}};
        for (int[] pair : wrongPairs) {
            due.is("2: account(" + pair[0] + ", " + pair[1] + ")", x.account(pair[0], pair[1]), OUTSIDE);
        }
        for (int i = 0; i < 60; i++) {
            due.is("2: account " + (i + 1), x.account(i / 6, i % 6), i + 1);
        }
        due.is("2: account 61", x.account(9, 5), ROOM);
        due.is("2: account 61 of office 10", x.account(10, 5), OUTSIDE);
        due.is("2: account 61 of kind 6", x.account(9, 6), OUTSIDE);
        balanceIs(x, 60, 0, 0);
        balanceIs(x, 61, 0, UNKNOWN);
    }

    private static void promise3Batch() {
        PostLedger x = office();
        long[] wrongDays = {-1, 20001, Long.MIN_VALUE, Long.MAX_VALUE, 1L << 32};
        for (long day : wrongDays) {
            due.is("3: batch(" + day + ")", x.batch(day), OUTSIDE);
        }
        due.is("3: batch(0)", x.batch(0), 1);
        due.is("3: batch(20000)", x.batch(20000), 2);
        x.close(7);
        due.is("3: batch(7), closed", x.batch(7), STATE);
        due.is("3: batch(0), closed", x.batch(0), STATE);
        due.is("3: batch(-1), before closed days", x.batch(-1), OUTSIDE);
        due.is("3: batch(8)", x.batch(8), 3);
        due.is("3: row of the new batch", x.row(3, 1, 1), true);
        due.is("3: row of no batch", x.row(4, 1, 1), false);
    }

    private static void promise3BatchRoom() {
        PostLedger x = office();
        x.close(7);
        fillBatches(x, 299);
        due.is("3: batch 300", x.batch(8), 300);
        due.is("3: batch 301", x.batch(8), ROOM);
        due.is("3: batch 301, closed", x.batch(7), STATE);
        due.is("3: batch 301, no day", x.batch(20001), OUTSIDE);
        due.is("3: row of batch 300", x.row(300, 1, 1), true);
        due.is("3: row of batch 301", x.row(301, 1, 1), false);
        due.is("3: post(301)", Due.post(x, 301), UNKNOWN);
    }

    private static void promise4Row() {
        PostLedger x = office();
        x.batch(1);
        due.is("4: row(1, 1, -5)", x.row(1, 1, -5), true);
        due.is("4: row(0, 1, 5)", x.row(0, 1, 5), false);
        due.is("4: row(2, 1, 5)", x.row(2, 1, 5), false);
        due.is("4: row(-1, 1, 5)", x.row(-1, 1, 5), false);
        due.is("4: row(MIN, 1, 5)", x.row(Integer.MIN_VALUE, 1, 5), false);
        due.is("4: row(1, 0, 5)", x.row(1, 0, 5), false);
        due.is("4: row(1, 5, 5)", x.row(1, 5, 5), false);
        due.is("4: row(1, MAX, 5)", x.row(1, Integer.MAX_VALUE, 5), false);
        long[] wrongCents = {0, MOST + 1, -MOST - 1, Long.MIN_VALUE, Long.MAX_VALUE, 1L << 32};
        for (long cents : wrongCents) {
            due.is("4: row(1, 1, " + cents + ")", x.row(1, 1, cents), false);
        }
        holdIs(x, 1, 5);
        x.row(1, 3, 5);
        postIs(x, 1, 1);
        due.is("4: rows() behind false rows", x.rows(), 2);
        due.is("4: row of a posted batch", x.row(1, 1, 5), false);
        due.is("4: rows() behind a row of a posted batch", x.rows(), 2);
        x.batch(1);
        postIs(x, 2, Due.THROWS);
        due.is("4: row of a void batch", x.row(2, 1, 5), false);
    }

    private static void promise4RowEdges() {
        PostLedger x = office();
        x.batch(1);
        due.is("4: row of 10^8", x.row(1, 1, MOST), true);
        due.is("4: row of -10^8", x.row(1, 3, -MOST), true);
        for (int i = 3; i <= 12; i++) {
            due.is("4: row " + i, x.row(1, 1, i % 2 == 0 ? 4 : -4), true);
        }
        due.is("4: row 13", x.row(1, 1, -4), false);
        holdIs(x, 1, 20);
        holdIs(x, 3, MOST);
        postIs(x, 1, 1);
        due.is("4: rows() of a full batch", x.rows(), 12);
        x.batch(1);
        x.close(1);
        due.is("4: row of an open batch of a closed day", x.row(2, 1, -1), true);
        holdIs(x, 1, 1);
    }

    private static void promise5Post() {
        PostLedger x = office();
        postIs(x, 0, UNKNOWN);
        postIs(x, 1, UNKNOWN);
        postIs(x, Integer.MIN_VALUE, UNKNOWN);
        int batch = moving(x, 5, CASH, OTHER, 30);
        due.is("5: rows() of an open batch", x.rows(), 0);
        balanceIs(x, CASH, 20000, 0);
        postIs(x, batch, 1);
        balanceIs(x, CASH, 20000, -30);
        balanceIs(x, OTHER, 20000, 30);
        postIs(x, batch, STATE);
        balanceIs(x, CASH, 20000, -30);
        due.is("5: rows()", x.rows(), 2);
    }

    private static void promise5PostUnbalanced() {
        PostLedger x = office();
        x.batch(5);
        postIs(x, 1, Due.THROWS);
        postIs(x, 1, STATE);
        x.batch(5);
        x.row(2, CASH, -30);
        x.row(2, OTHER, 29);
        postIs(x, 2, Due.THROWS);
        postIs(x, 2, STATE);
        balanceIs(x, CASH, 20000, 0);
        balanceIs(x, OTHER, 20000, 0);
        holdIs(x, CASH, 0);
        due.is("5: rows() behind refusals", x.rows(), 0);
        x.batch(5);
        x.fails(3, true);
        postIs(x, 3, Due.THROWS);
        x.batch(5);
        x.row(4, CASH, 1);
        x.fails(4, true);
        postIs(x, 4, Due.THROWS);
    }

    private static void promise5PostLimits() {
        PostLedger x = office();
        postIs(x, moving(x, 5, CUSTOMER, CASH, 1), Due.THROWS);
        x.limit(CUSTOMER, 10);
        move(x, 9, CUSTOMER, CASH, 10);
        // The balance of all days counts, later ones too.
        postIs(x, moving(x, 5, CUSTOMER, CASH, 1), Due.THROWS);
        balanceIs(x, CUSTOMER, 20000, -10);
        balanceIs(x, CASH, 20000, 10);
        holdIs(x, CUSTOMER, 0);
        // In order: what comes to the account behind the row that takes does not help it, what comes before does.
        int late = moving(x, 5, CUSTOMER, CUSTOMER, 3);
        postIs(x, late, Due.THROWS);
        int soon = x.batch(5);
        x.row(soon, CUSTOMER, 3);
        x.row(soon, CUSTOMER, -3);
        postIs(x, soon, 1);
        // A row that gives to an account below its limit is none that takes.
        x.limit(CUSTOMER, 0);
        move(x, 5, CASH, CUSTOMER, 4);
        balanceIs(x, CUSTOMER, 20000, -6);
        // Only customers' accounts have their limit looked at.
        x.limit(OTHER, 0);
        move(x, 5, OTHER, CASH, 500);
        due.is("5: rows() behind limits", x.rows(), 8);
    }

    private static void promise5PostFailing() {
        PostLedger x = office();
        int planned = moving(x, 5, CASH, OTHER, 30);
        x.fails(planned, true);
        postIs(x, planned, 0);
        postIs(x, planned, STATE);
        balanceIs(x, CASH, 20000, 0);
        balanceIs(x, OTHER, 20000, 0);
        holdIs(x, CASH, 0);
        due.is("5: rows() behind a failure", x.rows(), 0);
        // The first row's limit comes before the failure, the second row's behind it.
        int first = moving(x, 5, CUSTOMER, CASH, 1);
        x.fails(first, true);
        postIs(x, first, Due.THROWS);
        int second = x.batch(5);
        x.row(second, CASH, 1);
        x.row(second, CUSTOMER, -1);
        x.fails(second, true);
        postIs(x, second, 0);
        holdIs(x, CUSTOMER, 0);
    }

    private static void promise5PostOnClosedDay() {
        PostLedger x = office();
        int batch = moving(x, 5, CASH, OTHER, 30);
        int empty = x.batch(5);
        int next = moving(x, 6, CASH, OTHER, 7);
        x.close(5);
        postIs(x, batch, STATE);
        postIs(x, empty, STATE);
        holdIs(x, CASH, 37);
        due.is("5: fails of a batch that stayed open", x.fails(batch, true), true);
        due.is("5: row of a batch that stayed open", x.row(empty, CASH, -1), true);
        postIs(x, next, 1);
        holdIs(x, CASH, 31);
        balanceIs(x, CASH, 20000, -7);
    }

    private static void promise6Balance() {
        PostLedger x = office();
        move(x, 0, CASH, OTHER, 1);
        move(x, 20000, CASH, OTHER, 100);
        move(x, 7, CASH, OTHER, 10);
        moving(x, 7, CASH, OTHER, 1000);
        balanceIs(x, CASH, Long.MIN_VALUE, 0);
        balanceIs(x, CASH, -1, 0);
        balanceIs(x, CASH, 0, -1);
        balanceIs(x, CASH, 6, -1);
        balanceIs(x, CASH, 7, -11);
        balanceIs(x, CASH, 19999, -11);
        balanceIs(x, CASH, 20000, -111);
        balanceIs(x, OTHER, Long.MAX_VALUE, 111);
        balanceIs(x, CUSTOMER, 20000, 0);
        balanceIs(x, 0, 7, UNKNOWN);
        balanceIs(x, 5, 7, UNKNOWN);
        balanceIs(x, -1, -1, UNKNOWN);
        balanceIs(x, Integer.MIN_VALUE, 7, UNKNOWN);
    }

    private static void promise7Close() {
        PostLedger x = office();
        long[] wrongDays = {-1, 20001, Long.MIN_VALUE, Long.MAX_VALUE, 1L << 32};
        for (long day : wrongDays) {
            due.is("7: close(" + day + ")", x.close(day), OUTSIDE);
        }
        due.is("7: batch(0) behind refused closes", x.batch(0), 1);
        due.is("7: close(0)", x.close(0), 1);
        due.is("7: close(0) again", x.close(0), 0);
        due.is("7: close(9)", x.close(9), 9);
        due.is("7: close(3)", x.close(3), 0);
        due.is("7: batch(9)", x.batch(9), STATE);
        due.is("7: batch(10)", x.batch(10), 2);
        due.is("7: close(20000)", x.close(20000), 19991);
        due.is("7: close(20000) again", x.close(20000), 0);
        due.is("7: batch(20000)", x.batch(20000), STATE);
    }

    private static void promise8Reverse() {
        PostLedger x = office();
        x.batch(5);
        move(x, 5, CASH, OTHER, 30);
        x.row(1, CASH, -4);
        x.row(1, OTHER, 3);
        x.row(1, DIFFERENCE, 1);
        postIs(x, 1, 1);
        int[] noRows = {0, -1, 6, Integer.MIN_VALUE, Integer.MAX_VALUE};
        for (int row : noRows) {
            due.is("8: reverse(" + row + ")", x.reverse(row), 0);
        }
        // Rows are numbered as they were posted: the second batch has 1 and 2, the first one 3 to 5.
        due.is("8: reverse(5)", x.reverse(5), 1);
        balanceIs(x, CASH, 5, -30);
        balanceIs(x, OTHER, 5, 30);
        balanceIs(x, DIFFERENCE, 5, 0);
        due.is("8: rows()", x.rows(), 8);
        for (int row = 3; row <= 9; row++) {
            due.is("8: reverse(" + row + "), taken back or taking back", x.reverse(row), 0);
        }
        due.is("8: reverse(2)", x.reverse(2), 1);
        due.is("8: reverse(1)", x.reverse(1), 0);
        balanceIs(x, CASH, 5, 0);
        due.is("8: rows() of two taken back", x.rows(), 10);
        due.is("8: batch behind four", x.batch(5), 5);
        postIs(x, 3, STATE);
        due.is("8: row of a batch that takes back", x.row(4, CASH, 1), false);
    }

    private static void promise8ReverseDays() {
        PostLedger x = office();
        move(x, 5, CASH, OTHER, 30);
        move(x, 9, CASH, OTHER, 400);
        x.close(6);
        due.is("8: reverse(1) of a closed day", x.reverse(1), 1);
        due.is("8: reverse(3) of a later day", x.reverse(3), 1);
        balanceIs(x, CASH, 5, -30);
        balanceIs(x, CASH, 6, -30);
        balanceIs(x, CASH, 7, 0);
        balanceIs(x, CASH, 8, 0);
        balanceIs(x, CASH, 9, 0);
        move(x, 20000, CASH, OTHER, 5);
        x.close(20000);
        due.is("8: reverse(9) when all days are closed", x.reverse(9), 1);
        balanceIs(x, CASH, 20000, -5);
        balanceIs(x, CASH, 20001, 0);
    }

    private static void promise8ReverseIgnoresLimits() {
        PostLedger x = office();
        move(x, 5, CASH, CUSTOMER, 30);
        move(x, 5, CUSTOMER, CASH, 30);
        due.is("8: reverse(1) below the limit", x.reverse(1), 1);
        balanceIs(x, CUSTOMER, 5, -30);
        due.is("8: all() below the limit", x.all(), 0);
    }

    private static void promise8ReverseRoom() {
        PostLedger x = office();
        move(x, 5, CASH, OTHER, 30);
        move(x, 5, CASH, OTHER, 40);
        fillBatches(x, 299);
        due.is("8: reverse(1) as batch 300", x.reverse(1), 1);
        due.is("8: reverse(3) without room", x.reverse(3), ROOM);
        due.is("8: reverse(1) without room", x.reverse(1), 0);
        due.is("8: reverse(7) without room", x.reverse(7), 0);
        due.is("8: rows() without room", x.rows(), 6);
        balanceIs(x, CASH, 5, -40);
        due.is("8: batch(5) without room", x.batch(5), ROOM);
    }

    private static void promise9Stock() {
        PostLedger x = office();
        due.is("9: stock(0, 0, 70)", x.stock(0, 0, 70), 70);
        balanceIs(x, CASH, 0, 70);
        balanceIs(x, DIFFERENCE, 0, -70);
        due.is("9: rows()", x.rows(), 2);
        due.is("9: stock(0, 0, 70) again", x.stock(0, 0, 70), 0);
        due.is("9: rows() of no difference", x.rows(), 2);
        due.is("9: batch behind one", x.batch(0), 2);
        x.close(8);
        due.is("9: stock(0, 0, -5)", x.stock(0, 0, -5), -75);
        balanceIs(x, CASH, 8, 70);
        balanceIs(x, CASH, 9, -5);
        balanceIs(x, DIFFERENCE, 9, 5);
        due.is("9: reverse(4) of a count", x.reverse(4), 1);
        balanceIs(x, CASH, 9, 70);
        // Limits do not count.
        due.is("9: stock(0, 3, -6)", x.stock(0, 3, -6), -6);
        balanceIs(x, CUSTOMER, 9, -6);
        // All days are told together, those to come too, and what is only held is still there.
        move(x, 15, CASH, OTHER, 20);
        moving(x, 15, CASH, OTHER, 1);
        due.is("9: stock(0, 0, 50)", x.stock(0, 0, 50), 0);
        x.close(20000);
        due.is("9: stock(0, 0, 51), all closed", x.stock(0, 0, 51), 1);
        balanceIs(x, CASH, 20000, 50);
        balanceIs(x, CASH, 20001, 51);
    }

    private static void promise9StockAccounts() {
        PostLedger x = new PostLedger();
        x.account(1, 2);
        x.account(0, 5);
        x.account(0, 2);
        x.account(0, 2);
        x.account(0, 5);
        x.account(0, 4);
        move(x, 3, 3, 4, 40);
        due.is("9: stock(0, 2, 10) of two accounts", x.stock(0, 2, 10), 10);
        balanceIs(x, 1, 3, 0);
        balanceIs(x, 2, 3, -10);
        balanceIs(x, 3, 3, -30);
        balanceIs(x, 4, 3, 40);
        balanceIs(x, 5, 3, 0);
        due.is("9: stock(0, 4, -1)", x.stock(0, 4, -1), -1);
        balanceIs(x, 6, 3, -1);
        balanceIs(x, 2, 3, -9);
        due.is("9: stock(1, 2, 5) without differences", x.stock(1, 2, 5), STATE);
        due.is("9: stock(1, 2, 0) without differences", x.stock(1, 2, 0), 0);
        due.is("9: stock(0, 0, 5) without the kind", x.stock(0, 0, 5), STATE);
        due.is("9: stock(9, 0, 0) of nothing", x.stock(9, 0, 0), 0);
        due.is("9: rows()", x.rows(), 6);
    }

    private static void promise9StockRefusals() {
        PostLedger x = office();
        due.is("9: stock(-1, 0, 5)", x.stock(-1, 0, 5), OUTSIDE);
        due.is("9: stock(10, 0, 5)", x.stock(10, 0, 5), OUTSIDE);
        due.is("9: stock(0, -1, 5)", x.stock(0, -1, 5), OUTSIDE);
        due.is("9: stock(0, 5, 5)", x.stock(0, 5, 5), OUTSIDE);
        long[] wrongCounts = {MOST + 1, -MOST - 1, Long.MIN_VALUE, Long.MAX_VALUE};
        for (long counted : wrongCounts) {
            due.is("9: stock(0, 0, " + counted + ")", x.stock(0, 0, counted), OUTSIDE);
        }
        due.is("9: rows() behind refusals", x.rows(), 0);
        due.is("9: stock(0, 0, 10^8)", x.stock(0, 0, MOST), MOST);
        due.is("9: stock(0, 0, -10^8)", x.stock(0, 0, -MOST), -2 * MOST);
    }

    private static void promise9StockLargest() {
        PostLedger x = office();
        for (int batch = 1; batch <= 2; batch++) {
            x.batch(5);
            for (int pair = 0; pair < 5; pair++) {
                x.row(batch, CASH, MOST);
                x.row(batch, OTHER, -MOST);
            }
            postIs(x, batch, 1);
        }
        balanceIs(x, CASH, 5, 10 * MOST);
        due.is("9: stock(0, 0, -1) above 10^9", x.stock(0, 0, -1), STATE);
        due.is("9: stock(0, 1, 1) above 10^9", x.stock(0, 1, 1), STATE);
        due.is("9: rows() behind counts above 10^9", x.rows(), 20);
        due.is("9: stock(0, 0, 0) of 10^9", x.stock(0, 0, 0), -10 * MOST);
        due.is("9: stock(0, 1, 0) of 10^9", x.stock(0, 1, 0), 10 * MOST);
        balanceIs(x, DIFFERENCE, 5, 0);
        due.is("9: reverse(21) of 10^9", x.reverse(21), 1);
        balanceIs(x, CASH, 5, 10 * MOST);
        balanceIs(x, DIFFERENCE, 5, -10 * MOST);
    }

    private static void promise9StockRoom() {
        PostLedger x = office();
        fillBatches(x, 299);
        due.is("9: stock(0, 0, 5) as batch 300", x.stock(0, 0, 5), 5);
        due.is("9: stock(0, 0, 6) without room", x.stock(0, 0, 6), ROOM);
        due.is("9: stock(0, 0, 5) without room", x.stock(0, 0, 5), 0);
        due.is("9: stock(0, 2, 6) without room or account", x.stock(0, 2, 6), STATE);
        due.is("9: stock(0, 6, 6) without room", x.stock(0, 6, 6), OUTSIDE);
        balanceIs(x, CASH, 20000, 5);
        due.is("9: rows() without room", x.rows(), 2);
    }

    private static void promise10Limit() {
        PostLedger x = office();
        due.is("10: limit(2, 10^8)", x.limit(CUSTOMER, MOST), 0);
        due.is("10: limit(2, 7)", x.limit(CUSTOMER, 7), MOST);
        due.is("10: limit(1, 3)", x.limit(CASH, 3), 0);
        due.is("10: limit(1, 0)", x.limit(CASH, 0), 3);
        long[] wrongLimits = {-1, MOST + 1, Long.MIN_VALUE, Long.MAX_VALUE, 1L << 32};
        for (long cents : wrongLimits) {
            due.is("10: limit(2, " + cents + ")", x.limit(CUSTOMER, cents), OUTSIDE);
            due.is("10: limit(5, " + cents + ")", x.limit(5, cents), UNKNOWN);
        }
        due.is("10: limit(0, 1)", x.limit(0, 1), UNKNOWN);
        due.is("10: limit(-1, 1)", x.limit(-1, 1), UNKNOWN);
        due.is("10: limit(2, 8)", x.limit(CUSTOMER, 8), 7);
        // The limit that counts is the one at the time of posting.
        int batch = moving(x, 5, CUSTOMER, CASH, 9);
        x.limit(CUSTOMER, 9);
        postIs(x, batch, 1);
        x.limit(CUSTOMER, 0);
        balanceIs(x, CUSTOMER, 5, -9);
    }

    private static void promise11Fails() {
        PostLedger x = office();
        due.is("11: fails(1, true), no batch", x.fails(1, true), false);
        int batch = moving(x, 5, CASH, OTHER, 30);
        due.is("11: fails(1, false) at first", x.fails(batch, false), false);
        due.is("11: fails(1, true)", x.fails(batch, true), true);
        due.is("11: fails(1, true) again", x.fails(batch, true), false);
        due.is("11: fails(1, false)", x.fails(batch, false), true);
        due.is("11: fails(0, true)", x.fails(0, true), false);
        due.is("11: fails(2, true)", x.fails(2, true), false);
        due.is("11: fails(MIN, true)", x.fails(Integer.MIN_VALUE, true), false);
        postIs(x, batch, 1);
        due.is("11: fails of a posted batch", x.fails(batch, true), false);
        due.is("11: reverse of a batch that fails no more", x.reverse(1), 1);
        int planned = moving(x, 5, CASH, OTHER, 30);
        x.fails(planned, true);
        postIs(x, planned, 0);
        due.is("11: fails(.., false) of a void batch", x.fails(planned, false), false);
        due.is("11: fails(.., true) of a void batch", x.fails(planned, true), false);
    }

    private static void promise12Hold() {
        PostLedger x = office();
        int batch = moving(x, 5, CASH, OTHER, 30);
        moving(x, 6, CASH, OTHER, 4);
        x.row(batch, CASH, 25);
        x.row(batch, CASH, -1);
        holdIs(x, CASH, 35);
        holdIs(x, OTHER, 0);
        holdIs(x, 0, UNKNOWN);
        holdIs(x, 5, UNKNOWN);
        holdIs(x, -1, UNKNOWN);
        postIs(x, batch, Due.THROWS);
        holdIs(x, CASH, 4);
        postIs(x, 2, 1);
        holdIs(x, CASH, 0);
        int planned = moving(x, 6, OTHER, CASH, 8);
        x.fails(planned, true);
        holdIs(x, OTHER, 8);
        postIs(x, planned, 0);
        holdIs(x, OTHER, 0);
        due.is("12: reverse(1)", x.reverse(1), 1);
        holdIs(x, OTHER, 0);
        due.is("12: stock(0, 0, -3)", x.stock(0, 0, -3), -3);
        holdIs(x, CASH, 0);
        int full = x.batch(9);
        for (int i = 0; i < 12; i++) {
            x.row(full, CASH, -MOST);
        }
        int more = x.batch(9);
        for (int i = 0; i < 12; i++) {
            x.row(more, CASH, -MOST);
        }
        holdIs(x, CASH, 24 * MOST);
    }

    private static void promise13Rows() {
        PostLedger x = office();
        int batch = moving(x, 5, CASH, OTHER, 30);
        x.row(batch, CASH, 1);
        x.row(batch, CASH, -1);
        due.is("13: rows() of an open batch", x.rows(), 0);
        postIs(x, batch, 1);
        due.is("13: rows()", x.rows(), 4);
        int refused = moving(x, 5, CUSTOMER, OTHER, 30);
        postIs(x, refused, Due.THROWS);
        int planned = moving(x, 5, CASH, OTHER, 30);
        x.fails(planned, true);
        postIs(x, planned, 0);
        due.is("13: rows() behind two void batches", x.rows(), 4);
        x.reverse(4);
        due.is("13: rows() behind reverse", x.rows(), 8);
        x.stock(0, 0, 1);
        due.is("13: rows() behind stock", x.rows(), 10);
        // Void batches have taken no numbers.
        due.is("13: reverse(9)", x.reverse(9), 1);
        balanceIs(x, CASH, 20000, 0);
    }

    private static void promise14All() {
        PostLedger x = office();
        x.batch(5);
        x.row(1, CASH, -30);
        due.is("14: all() of an open batch", x.all(), 0);
        postIs(x, 1, Due.THROWS);
        due.is("14: all() of a refused batch", x.all(), 0);
        int planned = moving(x, 5, CASH, OTHER, 30);
        x.fails(planned, true);
        postIs(x, planned, 0);
        due.is("14: all() of a failed batch", x.all(), 0);
        postIs(x, moving(x, 5, CUSTOMER, OTHER, 30), Due.THROWS);
        due.is("14: all() of a batch beyond a limit", x.all(), 0);
        move(x, 5, CASH, OTHER, 30);
        x.reverse(1);
        x.stock(0, 0, 77);
        due.is("14: all() behind reverse and stock", x.all(), 0);
    }
}
