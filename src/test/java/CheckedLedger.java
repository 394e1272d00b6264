/** A new ledger whose calls tell their own text, so that a wrong answer can be printed with the call. */
final class CheckedLedger {
    private static final int MOST_CALLS = 512;
    private static final long MOST_CENTS = 100000000L;

    private final PostLedger ledger = new PostLedger();
    private final Due due;
    private int calls = 0;

    CheckedLedger(Due due) {
        this.due = due;
    }

    Answer account(int office, int kind) {
        return answer("account(" + office + ", " + kind + ")", ledger.account(office, kind));
    }

    Answer batch(long day) {
        return answer("batch(" + day + ")", ledger.batch(day));
    }

    Answer row(int batch, int account, long cents) {
        boolean got = ledger.row(batch, account, cents);
        return answer("row(" + batch + ", " + account + ", " + cents + ")", got ? 1 : 0);
    }

    Answer post(int batch) {
        return answer("post(" + batch + ")", Due.post(ledger, batch));
    }

    Answer balance(int account, long day) {
        return answer("balance(" + account + ", " + day + ")", ledger.balance(account, day));
    }

    Answer close(long day) {
        return answer("close(" + day + ")", ledger.close(day));
    }

    Answer reverse(int row) {
        return answer("reverse(" + row + ")", ledger.reverse(row));
    }

    Answer stock(int office, int kind, long counted) {
        return answer("stock(" + office + ", " + kind + ", " + counted + ")", ledger.stock(office, kind, counted));
    }

    Answer limit(int account, long cents) {
        return answer("limit(" + account + ", " + cents + ")", ledger.limit(account, cents));
    }

    Answer fails(int batch, boolean on) {
        return answer("fails(" + batch + ", " + on + ")", ledger.fails(batch, on) ? 1 : 0);
    }

    Answer hold(int account) {
        return answer("hold(" + account + ")", ledger.hold(account));
    }

    Answer rows() {
        return answer("rows()", ledger.rows());
    }

    Answer all() {
        return answer("all()", ledger.all());
    }

    /** A new ledger beside this one. */
    CheckedLedger another() {
        return new CheckedLedger(due);
    }

    int calls() {
        return calls;
    }

    /** Office 0 gets accounts 1 (kind 0), 2 (a customer's), 3 (kind 1) and 4 (differences). */
    void openOffice() {
        account(0, 0).is(1);
        account(0, 3).is(2);
        account(0, 1).is(3);
        account(0, 5).is(4);
    }

    /** A new open batch with two rows that sum to 0, the one that takes first: its number. */
    int moving(long day, int from, int to, long cents) {
        int batch = batch(day).number();
        row(batch, from, -cents).is(true);
        row(batch, to, cents).is(true);
        return batch;
    }

    /** A posted batch with two rows, the one that takes first: its number. */
    int move(long day, int from, int to, long cents) {
        int batch = moving(day, from, to, cents);
        post(batch).is(1);
        return batch;
    }

    /** A posted batch of twelve rows that moves 6 * 10^8; the rows that give come first. */
    int moveSixLargest(long day, int from, int to) {
        int batch = batch(day).number();
        for (int i = 0; i < 6; i++) {
            row(batch, to, MOST_CENTS).is(true);
        }
        for (int i = 0; i < 6; i++) {
            row(batch, from, -MOST_CENTS).is(true);
        }
        post(batch).is(1);
        return batch;
    }

    /** A batch that fails by plan: its number. */
    int fail(long day, int from, int to, long cents) {
        int batch = moving(day, from, to, cents);
        fails(batch, true).is(true);
        post(batch).is(0);
        return batch;
    }

    /** Open batches of the last day, until there are so many in all. */
    void fillBatches(int inAll) {
        int number = 0;
        while (number < inAll) {
            number = batch(20000).number();
            if (number < 0) {
                due.fault("there is no room for " + inAll + " batches");
                return;
            }
        }
    }

    private Answer answer(String call, long got) {
        calls++;
        if (calls > MOST_CALLS) {
            due.fault("a test of more calls than an object is used for: " + call);
        }
        return new Answer(due, call, got);
    }
}
