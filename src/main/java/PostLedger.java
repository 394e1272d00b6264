import java.util.ArrayList;

/** Books of a post in double rows. The promises that the comments number stand in ../shared/DOC.md. */
public final class PostLedger {
    public static final int UNKNOWN = -2000000001, OUTSIDE = -2000000002, STATE = -2000000003, ROOM = -2000000004;

    private static final int OFFICES = 10, KINDS = 6, CUSTOMERS = 3, DIFFERENCES = 5;
    private static final int MOST_ACCOUNTS = 60, MOST_BATCHES = 300, MOST_ROWS = 12;
    private static final int LAST_DAY = 20000;
    private static final long MOST_CENTS = 100000000L, MOST_DIFFERENCE = 1000000000L;

    private final ArrayList<Account> accounts;
    private final ArrayList<Batch> batches;
    private int firstOpenDay;
    private int postedRows;

    /** Promise 1. */
    public PostLedger() {
        accounts = new ArrayList<>();
        batches = new ArrayList<>();
        firstOpenDay = 0;
        postedRows = 0;
    }

    /** Promise 2. */
    public int account(int office, int kind) {
        if (!isOffice(office) || kind < 0 || kind >= KINDS) {
            return OUTSIDE;
        }
        if (accounts.size() >= MOST_ACCOUNTS) {
            return ROOM;
        }
        accounts.add(new Account(office, kind));
        return accounts.size();
    }

    /** Promise 3. */
    public int batch(long day) {
        if (!isDay(day)) {
            return OUTSIDE;
        }
        if (isClosed(day)) {
            return STATE;
        }
        if (!hasRoomForBatch()) {
            return ROOM;
        }
        batches.add(new Batch((int) day));
        return batches.size();
    }

    /** Promise 4. */
    public boolean row(int batch, int account, long cents) {
        Batch target = findBatch(batch);
        Account touched = findAccount(account);
        if (target == null || touched == null || !target.isOpen() || target.isFull()) {
            return false;
        }
        if (cents == 0 || !isWithin(cents, -MOST_CENTS, MOST_CENTS)) {
            return false;
        }
        target.addRow(touched, cents);
        return true;
    }

    /** Promise 5. */
    public int post(int batch) throws IllegalStateException {
        Batch target = findBatch(batch);
        if (target == null) {
            return UNKNOWN;
        }
        if (!target.isOpen() || isClosed(target.day)) {
            return STATE;
        }
        Outcome outcome = target.outcomeOfPosting();
        if (outcome == Outcome.POSTED) {
            enterIntoBooks(target);
            return 1;
        }
        target.standing = Standing.VOID;
        if (outcome == Outcome.REFUSED) {
            throw new IllegalStateException("the batch is refused");
        }
        return 0;
    }

    /** Promise 6. */
    public long balance(int account, long day) {
        Account asked = findAccount(account);
        if (asked == null) {
            return UNKNOWN;
        }
        long sum = 0;
        for (int i = 0; i < batches.size(); i++) {
            Batch batch = batches.get(i);
            if (batch.standing == Standing.POSTED && batch.day <= day) {
                sum += batch.sumForAccount(asked, batch.size());
            }
        }
        return sum;
    }

    /** Promise 7. */
    public int close(long day) {
        if (!isDay(day)) {
            return OUTSIDE;
        }
        if (isClosed(day)) {
            return 0;
        }
        int openBefore = firstOpenDay;
        firstOpenDay = (int) day + 1;
        return firstOpenDay - openBefore;
    }

    /** Promise 8. */
    public int reverse(int row) {
        Batch original = findBatchOfRow(row);
        if (original == null || original.isPartOfReversal) {
            return 0;
        }
        if (!hasRoomForBatch()) {
            return ROOM;
        }
        Batch back = new Batch(Math.max(original.day, firstOpenDay));
        back.addRowsWithOtherSign(original);
        original.isPartOfReversal = true;
        back.isPartOfReversal = true;
        batches.add(back);
        enterIntoBooks(back);
        return 1;
    }

    /** Promise 9. */
    public int stock(int office, int kind, long counted) {
        if (!isOffice(office) || kind < 0 || kind >= DIFFERENCES || !isWithin(counted, -MOST_CENTS, MOST_CENTS)) {
            return OUTSIDE;
        }
        long difference = counted - totalOfKind(office, kind);
        if (difference == 0) {
            return 0;
        }
        Account stocked = firstOfKind(office, kind);
        Account differences = firstOfKind(office, DIFFERENCES);
        if (stocked == null || differences == null || !isWithin(difference, -MOST_DIFFERENCE, MOST_DIFFERENCE)) {
            return STATE;
        }
        if (!hasRoomForBatch()) {
            return ROOM;
        }
        Batch correction = new Batch(firstOpenDay);
        correction.addRow(stocked, difference);
        correction.addRow(differences, -difference);
        batches.add(correction);
        enterIntoBooks(correction);
        return (int) difference;
    }

    /** Promise 10. */
    public int limit(int account, long cents) {
        Account target = findAccount(account);
        if (target == null) {
            return UNKNOWN;
        }
        if (!isWithin(cents, 0, MOST_CENTS)) {
            return OUTSIDE;
        }
        int before = target.limit;
        target.limit = (int) cents;
        return before;
    }

    /** Promise 11. */
    public boolean fails(int batch, boolean on) {
        Batch target = findBatch(batch);
        if (target == null || !target.isOpen() || target.failsByPlan == on) {
            return false;
        }
        target.failsByPlan = on;
        return true;
    }

    /** Promise 12. */
    public long hold(int account) {
        Account asked = findAccount(account);
        if (asked == null) {
            return UNKNOWN;
        }
        // Summed anew from the open batches, so that no way in which a batch ends can forget to free its holds.
        long held = 0;
        for (int i = 0; i < batches.size(); i++) {
            Batch batch = batches.get(i);
            if (batch.isOpen()) {
                held += batch.takenFromAccount(asked);
            }
        }
        return held;
    }

    /** Promise 13. */
    public int rows() {
        return postedRows;
    }

    /** Promise 14. */
    public long all() {
        long sum = 0;
        for (int i = 0; i < accounts.size(); i++) {
            sum += accounts.get(i).total;
        }
        return sum;
    }

    private static boolean isWithin(long number, long least, long most) {
        return number >= least && number <= most;
    }

    private static boolean isOffice(int office) {
        return office >= 0 && office < OFFICES;
    }

    private static boolean isDay(long day) {
        return isWithin(day, 0, LAST_DAY);
    }

    private boolean isClosed(long day) {
        return day < firstOpenDay;
    }

    private boolean hasRoomForBatch() {
        return batches.size() < MOST_BATCHES;
    }

    private Account findAccount(int number) {
        return number >= 1 && number <= accounts.size() ? accounts.get(number - 1) : null;
    }

    private Batch findBatch(int number) {
        return number >= 1 && number <= batches.size() ? batches.get(number - 1) : null;
    }

    private Batch findBatchOfRow(int rowNumber) {
        for (int i = 0; i < batches.size(); i++) {
            Batch batch = batches.get(i);
            if (batch.standing == Standing.POSTED && batch.hasRowNumber(rowNumber)) {
                return batch;
            }
        }
        return null;
    }

    private Account firstOfKind(int office, int kind) {
        for (int i = 0; i < accounts.size(); i++) {
            Account account = accounts.get(i);
            if (account.isOfKind(office, kind)) {
                return account;
            }
        }
        return null;
    }

    private long totalOfKind(int office, int kind) {
        long sum = 0;
        for (int i = 0; i < accounts.size(); i++) {
            Account account = accounts.get(i);
            if (account.isOfKind(office, kind)) {
                sum += account.total;
            }
        }
        return sum;
    }

    private void enterIntoBooks(Batch batch) {
        batch.standing = Standing.POSTED;
        batch.firstRowNumber = postedRows + 1;
        postedRows += batch.size();
        batch.addToTotals();
    }

    private enum Standing { OPEN, POSTED, VOID }

    private enum Outcome { POSTED, FAILED, REFUSED }

    private static final class Account {
        final int office;
        final int kind;
        int limit;
        /** The balance of all days. */
        long total;

        Account(int office, int kind) {
            this.office = office;
            this.kind = kind;
        }

        boolean isOfKind(int askedOffice, int askedKind) {
            return office == askedOffice && kind == askedKind;
        }
    }

    private static final class Row {
        final Account account;
        final long cents;

        Row(Account account, long cents) {
            this.account = account;
            this.cents = cents;
        }

        boolean takesFromCustomer() {
            return cents < 0 && account.kind == CUSTOMERS;
        }
    }

    private static final class Batch {
        final int day;
        private final ArrayList<Row> rows;
        Standing standing;
        boolean failsByPlan;
        /** It was taken back, or takes one back: either way it cannot be taken back any more. */
        boolean isPartOfReversal;
        int firstRowNumber;

        Batch(int day) {
            this.day = day;
            rows = new ArrayList<>();
            standing = Standing.OPEN;
        }

        boolean isOpen() {
            return standing == Standing.OPEN;
        }

        int size() {
            return rows.size();
        }

        boolean isFull() {
            return rows.size() >= MOST_ROWS;
        }

        boolean hasRowNumber(int number) {
            return number >= firstRowNumber && number < firstRowNumber + rows.size();
        }

        void addRow(Account account, long cents) {
            rows.add(new Row(account, cents));
        }

        void addRowsWithOtherSign(Batch original) {
            int count = original.rows.size();
            for (int i = 0; i < count; i++) {
                Row row = original.rows.get(i);
                addRow(row.account, -row.cents);
            }
        }

        void addToTotals() {
            for (int i = 0; i < rows.size(); i++) {
                Row row = rows.get(i);
                row.account.total += row.cents;
            }
        }

        /** Only foretells, so that a batch that does not go through leaves nothing in the books to be taken out. */
        Outcome outcomeOfPosting() {
            if (rows.isEmpty() || sumOfRows() != 0) {
                return Outcome.REFUSED;
            }
            for (int i = 0; i < rows.size(); i++) {
                if (breaksLimit(rows.get(i), i + 1)) {
                    return Outcome.REFUSED;
                }
                // A plan to fail comes behind the first row: that row's limit has its say before it, the others' do not.
                if (failsByPlan) {
                    return Outcome.FAILED;
                }
            }
            return Outcome.POSTED;
        }

        private boolean breaksLimit(Row row, int rowsEntered) {
            Account account = row.account;
            return row.takesFromCustomer()
                && account.total + sumForAccount(account, rowsEntered) < -account.limit;
        }

        private long sumOfRows() {
            long sum = 0;
            for (int i = 0; i < rows.size(); i++) {
                sum += rows.get(i).cents;
            }
            return sum;
        }

        long sumForAccount(Account account, int firstRows) {
            long sum = 0;
            for (int i = 0; i < firstRows && i < rows.size(); i++) {
                Row row = rows.get(i);
                if (row.account == account) {
                    sum += row.cents;
                }
            }
            return sum;
        }

        long takenFromAccount(Account account) {
            long taken = 0;
            for (int i = 0; i < rows.size(); i++) {
                Row row = rows.get(i);
                if (row.account == account && row.cents < 0) {
                    taken -= row.cents;
                }
            }
            return taken;
        }
    }
}
