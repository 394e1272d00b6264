import java.util.Random;

/**
 * Runs of 512 calls with seeded arguments, each answer held against PlainBooks; the questions among them (balance,
 * hold, rows, all) find out, too, whether a call that was refused has changed something.
 */
public final class ModelTest {
    private static final int RUNS = 1500, CALLS = 512;
    private static final long[] ODD_NUMBERS = {
        Long.MIN_VALUE, Long.MAX_VALUE, Integer.MIN_VALUE, Integer.MAX_VALUE, 1L << 32, -1, 0, 1, 5, 6, 9, 10, 12, 13,
        60, 61, 300, 301, 20000, 20001, 100000000, 100000001, -100000000, -100000001, 1000000000, 1000000001
    };

    private static final Due due = new Due();

    private final Random random;
    private final PostLedger ledger = new PostLedger();
    private final PlainBooks books = new PlainBooks();
    private final int run;
    private final boolean large;
    private final boolean crowded;
    private final int firstAccounts;
    private int calls = 0;
    private int accounts = 0, batches = 0;
    private int draft = 0;
    private long draftSum = 0;

    private ModelTest(int run) {
        this.run = run;
        random = new Random(run);
        large = run % 4 == 0;
        crowded = run % 5 == 0;
        firstAccounts = run % 7 == 0 ? 59 : 6;
    }

    public static void main(String[] args) {
        for (int run = 1; run <= RUNS && due.wrong() < 20; run++) {
            ModelTest test = new ModelTest(run);
            // A step may make two calls; nothing is promised beyond the last one.
            while (test.calls < CALLS - 1 && due.wrong() < 20) {
                test.callOnce();
            }
        }
        due.endProgram("ModelTest");
    }

    private void callOnce() {
        int choice = random.nextInt(100);
        if (accounts < firstAccounts || choice < 2) callAccount();
        else if (choice < (crowded && batches < 298 ? 75 : 12)) callBatch();
        else if (choice < 45) callRow();
        else if (choice < 50) callBalancingRow();
        else if (choice < 62) callPost();
        else if (choice < 70) callBalance();
        else if (choice < 72) callClose();
        else if (choice < 78) callReverse();
        else if (choice < 83) callStock();
        else if (choice < 87) callLimit();
        else if (choice < 90) callFails();
        else if (choice < 96) callHold();
        else callCounts();
    }

    private void callAccount() {
        int office = odd() ? (int) oddNumber() : random.nextInt(2);
        int kind = odd() ? (int) oddNumber() : accounts < 6 ? accounts : random.nextInt(6);
        int got = ledger.account(office, kind);
        is("account(" + office + ", " + kind + ")", got, books.account(office, kind));
        if (got > 0) accounts = got;
    }

    private void callBatch() {
        long day = someDay();
        int got = ledger.batch(day);
        is("batch(" + day + ")", got, books.batch(day));
        if (got > 0) {
            batches = got;
            draft = got;
            draftSum = 0;
        }
    }

    private void callRow() {
        callRow(odd() ? someBatch() : draft, someAccount(), someCents());
    }

    private void callBalancingRow() {
        callRow(draft, someAccount(), -draftSum);
    }

    private void callRow(int batch, int account, long cents) {
        boolean got = ledger.row(batch, account, cents);
        is("row(" + batch + ", " + account + ", " + cents + ")", got ? 1 : 0, books.row(batch, account, cents) ? 1 : 0);
        if (got && batch == draft) draftSum += cents;
    }

    private void callPost() {
        if (random.nextInt(4) > 0) callBalancingRow();
        int batch = random.nextInt(3) > 0 ? draft : someBatch();
        is("post(" + batch + ")", Due.post(ledger, batch), books.post(batch));
    }

    private void callBalance() {
        int account = someAccount();
        long day = random.nextInt(3) == 0 ? 20000 : someDay();
        is("balance(" + account + ", " + day + ")", ledger.balance(account, day), books.balance(account, day));
    }

    private void callClose() {
        long day = random.nextInt(200) == 0 ? 20000 : odd() ? -1 : random.nextInt(12);
        is("close(" + day + ")", ledger.close(day), books.close(day));
    }

    private void callReverse() {
        int row = odd() ? (int) oddNumber() : random.nextInt(books.rows() + 2);
        is("reverse(" + row + ")", ledger.reverse(row), books.reverse(row));
    }

    private void callStock() {
        int office = odd() ? (int) oddNumber() : random.nextInt(3);
        int kind = odd() ? (int) oddNumber() : random.nextInt(5);
        long counted = random.nextInt(4) == 0 ? 0 : someCents();
        is("stock(" + office + ", " + kind + ", " + counted + ")",
            ledger.stock(office, kind, counted), books.stock(office, kind, counted));
    }

    private void callLimit() {
        int account = someAccount();
        long cents = odd() ? oddNumber() : random.nextInt(30);
        is("limit(" + account + ", " + cents + ")", ledger.limit(account, cents), books.limit(account, cents));
    }

    private void callFails() {
        int batch = random.nextInt(3) > 0 ? draft : someBatch();
        boolean on = random.nextInt(3) > 0;
        is("fails(" + batch + ", " + on + ")", ledger.fails(batch, on) ? 1 : 0, books.fails(batch, on) ? 1 : 0);
    }

    private void callHold() {
        int account = someAccount();
        is("hold(" + account + ")", ledger.hold(account), books.hold(account));
    }

    private void callCounts() {
        is("rows()", ledger.rows(), books.rows());
        is("all()", ledger.all(), books.all());
    }

    private boolean odd() {
        return random.nextInt(25) == 0;
    }

    private long oddNumber() {
        return ODD_NUMBERS[random.nextInt(ODD_NUMBERS.length)];
    }

    private int someAccount() {
        return odd() ? (int) oddNumber() : 1 + random.nextInt(accounts);
    }

    private int someBatch() {
        return odd() ? (int) oddNumber() : 1 + random.nextInt(batches + 1);
    }

    private long someDay() {
        return odd() ? oddNumber() : random.nextInt(16);
    }

    private long someCents() {
        if (odd()) return oddNumber();
        return large ? (random.nextInt(3) - 1) * 100000000L : random.nextInt(41) - 20;
    }

    private void is(String call, long got, long want) {
        calls++;
        due.is("run " + run + ": " + call, got, want);
    }
}
