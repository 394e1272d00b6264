import java.util.ArrayList;
import java.util.List;

/**
 * The document once more, told in another way for ModelTest: the books are one list of rows, a batch that is
 * posted is put into it row by row and cut off again if it ends badly, and every answer is counted from the list.
 */
final class PlainBooks {
    private static final int UNKNOWN = -2000000001, OUTSIDE = -2000000002, STATE = -2000000003, ROOM = -2000000004;

    private record Entry(int batch, int account, long cents) { }

    private final List<int[]> accounts = new ArrayList<>();
    private final List<Long> limits = new ArrayList<>();
    private final List<Long> days = new ArrayList<>();
    private final List<Character> marks = new ArrayList<>();
    private final List<Boolean> plans = new ArrayList<>();
    private final List<Entry> drafts = new ArrayList<>();
    private final List<Entry> books = new ArrayList<>();
    private final List<Integer> reversals = new ArrayList<>();
    private long closed = -1;

    int account(int office, int kind) {
        if (office < 0 || office > 9 || kind < 0 || kind > 5) return OUTSIDE;
        if (accounts.size() == 60) return ROOM;
        accounts.add(new int[] {office, kind});
        limits.add(0L);
        return accounts.size();
    }

    int batch(long day) {
        if (day < 0 || day > 20000) return OUTSIDE;
        if (day <= closed) return STATE;
        return marks.size() == 300 ? ROOM : newBatch(day, 'o');
    }

    boolean row(int batch, int account, long cents) {
        if (!isOpen(batch) || !isAccount(account)) return false;
        if (cents == 0 || cents < -100_000_000 || cents > 100_000_000) return false;
        if (drafts.stream().filter(e -> e.batch == batch).count() >= 12) return false;
        return drafts.add(new Entry(batch, account, cents));
    }

    long post(int batch) {
        if (batch < 1 || batch > marks.size()) return UNKNOWN;
        if (!isOpen(batch) || days.get(batch - 1) <= closed) return STATE;
        int before = books.size();
        long answer = enter(batch);
        if (answer != 1) books.subList(before, books.size()).clear();
        marks.set(batch - 1, answer == 1 ? 'p' : 'v');
        return answer;
    }

    private long enter(int batch) {
        List<Entry> own = drafts.stream().filter(e -> e.batch == batch).toList();
        if (own.isEmpty() || own.stream().mapToLong(Entry::cents).sum() != 0) return Due.THROWS;
        int behind = 0;
        for (Entry entry : own) {
            books.add(entry);
            boolean takes = accounts.get(entry.account - 1)[1] == 3 && entry.cents < 0;
            if (takes && inBooks(entry.account) < -limits.get(entry.account - 1)) return Due.THROWS;
            behind++;
            if (behind == 1 && plans.get(batch - 1)) return 0;
        }
        return 1;
    }

    long balance(int account, long day) {
        if (!isAccount(account)) return UNKNOWN;
        return books.stream().filter(e -> e.account == account && days.get(e.batch - 1) <= day)
            .mapToLong(Entry::cents).sum();
    }

    int close(long day) {
        if (day < 0 || day > 20000) return OUTSIDE;
        int more = 0;
        for (; closed < day; closed++) more++;
        return more;
    }

    int reverse(int row) {
        if (row < 1 || row > books.size()) return 0;
        int batch = books.get(row - 1).batch;
        if (reversals.contains(batch)) return 0;
        if (marks.size() == 300) return ROOM;
        List<Entry> own = books.stream().filter(e -> e.batch == batch).toList();
        int back = newBatch(Math.max(days.get(batch - 1), closed + 1), 'p');
        for (Entry entry : own) books.add(new Entry(back, entry.account, -entry.cents));
        reversals.add(batch);
        reversals.add(back);
        return 1;
    }

    int stock(int office, int kind, long counted) {
        if (office < 0 || office > 9 || kind < 0 || kind > 4) return OUTSIDE;
        if (counted < -100_000_000 || counted > 100_000_000) return OUTSIDE;
        long difference = counted;
        int stocked = 0, differences = 0;
        for (int number = accounts.size(); number >= 1; number--) {
            int[] account = accounts.get(number - 1);
            if (account[0] == office && account[1] == kind) {
                stocked = number;
                difference -= inBooks(number);
            }
            if (account[0] == office && account[1] == 5) differences = number;
        }
        if (difference == 0) return 0;
        if (stocked == 0 || differences == 0 || Math.abs(difference) > 1_000_000_000) return STATE;
        if (marks.size() == 300) return ROOM;
        int batch = newBatch(closed + 1, 'p');
        books.add(new Entry(batch, stocked, difference));
        books.add(new Entry(batch, differences, -difference));
        return (int) difference;
    }

    int limit(int account, long cents) {
        if (!isAccount(account)) return UNKNOWN;
        if (cents < 0 || cents > 100_000_000) return OUTSIDE;
        return (int) (long) limits.set(account - 1, cents);
    }

    boolean fails(int batch, boolean on) {
        return isOpen(batch) && plans.set(batch - 1, on) != on;
    }

    long hold(int account) {
        if (!isAccount(account)) return UNKNOWN;
        return -drafts.stream().filter(e -> e.account == account && e.cents < 0 && isOpen(e.batch))
            .mapToLong(Entry::cents).sum();
    }

    int rows() {
        return books.size();
    }

    long all() {
        return books.stream().mapToLong(Entry::cents).sum();
    }

    private int newBatch(long day, char mark) {
        days.add(day);
        marks.add(mark);
        plans.add(false);
        return marks.size();
    }

    private boolean isAccount(int number) {
        return number >= 1 && number <= accounts.size();
    }

    private boolean isOpen(int batch) {
        return batch >= 1 && batch <= marks.size() && marks.get(batch - 1) == 'o';
    }

    private long inBooks(int account) {
        return books.stream().filter(e -> e.account == account).mapToLong(Entry::cents).sum();
    }
}
