import java.util.ArrayList;
import java.util.List;
import java.util.function.Consumer;
import java.util.function.Function;

/**
 * "A call that is refused changes nothing": of two ledgers with the same calls behind them one gets the call that is
 * refused as well; from then on both must answer alike, to questions and to calls that change something.
 */
public final class RefusalTest {
    private static final int UNKNOWN = PostLedger.UNKNOWN, OUTSIDE = PostLedger.OUTSIDE;
    private static final int STATE = PostLedger.STATE, ROOM = PostLedger.ROOM;
    private static final int NONE = 0;
    private static final long TOO_MUCH = 100000001L, TOO_LARGE_FOR_INT = (1L << 32) + 9;
    private static final int CASH = LedgerCases.CASH, CUSTOMER = LedgerCases.CUSTOMER, OTHER = LedgerCases.OTHER;

    /** The batches of busyOffice. */
    private static final int POSTED = 1, DAY_CLOSED = 2, FAILED = 3, REFUSED = 4, FULL = 5, PLANNED = 6, TAKES_BACK = 7;
    private static final int OF_COUNT = 8, STANDING = 9, NO_BATCH = 10;
    private static final int NO_ACCOUNT = 6;

    private static final Due due = new Due();

    public static void main(String[] args) {
        accounts();
        batches();
        rows();
        posts();
        closedDays();
        reversals();
        counts();
        limits();
        plans();
        questions();
        due.endProgram("RefusalTest");
    }

    private static void accounts() {
        refused(2, RefusalTest::busyOffice, x -> x.account(-1, 0), OUTSIDE);
        refused(2, RefusalTest::busyOffice, x -> x.account(10, 0), OUTSIDE);
        refused(2, RefusalTest::busyOffice, x -> x.account(0, -1), OUTSIDE);
        refused(2, RefusalTest::busyOffice, x -> x.account(0, 6), OUTSIDE);
        refused(2, RefusalTest::officeFullOfAccounts, x -> x.account(0, 2), ROOM);
    }

    private static void batches() {
        refused(3, RefusalTest::busyOffice, x -> x.batch(-1), OUTSIDE);
        refused(3, RefusalTest::busyOffice, x -> x.batch(20001), OUTSIDE);
        refused(3, RefusalTest::busyOffice, x -> x.batch(TOO_LARGE_FOR_INT), OUTSIDE);
        refused(3, RefusalTest::busyOffice, x -> x.batch(6), STATE);
        refused(3, RefusalTest::busyOffice, x -> x.batch(0), STATE);
        refused(3, RefusalTest::officeFullOfBatches, x -> x.batch(9), ROOM);
    }

    private static void rows() {
        for (int batch : new int[] {0, -1, NO_BATCH, POSTED, FAILED, REFUSED, FULL, TAKES_BACK, OF_COUNT, STANDING}) {
            refused(4, RefusalTest::busyOffice, x -> x.row(batch, CASH, -5), NONE);
        }
        for (int account : new int[] {0, -1, NO_ACCOUNT}) {
            refused(4, RefusalTest::busyOffice, x -> x.row(PLANNED, account, -5), NONE);
        }
        for (long cents : new long[] {0, TOO_MUCH, -TOO_MUCH, TOO_LARGE_FOR_INT}) {
            refused(4, RefusalTest::busyOffice, x -> x.row(PLANNED, CASH, cents), NONE);
        }
    }

    private static void posts() {
        for (int batch : new int[] {0, -1, NO_BATCH}) {
            refused(5, RefusalTest::busyOffice, x -> x.post(batch), UNKNOWN);
        }
        for (int batch : new int[] {POSTED, DAY_CLOSED, FAILED, REFUSED, TAKES_BACK, OF_COUNT, STANDING}) {
            refused(5, RefusalTest::busyOffice, x -> x.post(batch), STATE);
        }
    }

    private static void closedDays() {
        for (long day : new long[] {-1, 20001, TOO_LARGE_FOR_INT}) {
            refused(7, RefusalTest::busyOffice, x -> x.close(day), OUTSIDE);
        }
        refused(7, RefusalTest::busyOffice, x -> x.close(6), NONE);
        refused(7, RefusalTest::busyOffice, x -> x.close(0), NONE);
    }

    private static void reversals() {
        // Rows 1 and 2 were taken back by 3 and 4; 5 and 6 are of the count, 7 and 8 of a batch that stands.
        for (int row : new int[] {0, -1, 1, 2, 3, 4, 9}) {
            refused(8, RefusalTest::busyOffice, x -> x.reverse(row), NONE);
        }
        for (int row = 5; row <= 8; row++) {
            int standing = row;
            refused(8, RefusalTest::officeFullOfBatches, x -> x.reverse(standing), ROOM);
        }
    }

    private static void counts() {
        refused(9, RefusalTest::busyOffice, x -> x.stock(-1, 0, 5), OUTSIDE);
        refused(9, RefusalTest::busyOffice, x -> x.stock(10, 0, 5), OUTSIDE);
        refused(9, RefusalTest::busyOffice, x -> x.stock(0, -1, 5), OUTSIDE);
        refused(9, RefusalTest::busyOffice, x -> x.stock(0, 5, 5), OUTSIDE);
        for (long counted : new long[] {TOO_MUCH, -TOO_MUCH, TOO_LARGE_FOR_INT}) {
            refused(9, RefusalTest::busyOffice, x -> x.stock(0, 0, counted), OUTSIDE);
        }
        refused(9, RefusalTest::busyOffice, x -> x.stock(0, 2, 5), STATE);
        refused(9, RefusalTest::busyOffice, x -> x.stock(1, 2, 5), STATE);
        refused(9, RefusalTest::busyOffice, x -> x.stock(1, 2, 0), NONE);
        refused(9, RefusalTest::officeWithMuchCash, x -> x.stock(0, 0, 0), STATE);
        refused(9, RefusalTest::officeFullOfBatches, x -> x.stock(0, 0, 5), ROOM);
    }

    private static void limits() {
        for (int account : new int[] {0, -1, NO_ACCOUNT}) {
            refused(10, RefusalTest::busyOffice, x -> x.limit(account, 5), UNKNOWN);
        }
        for (long cents : new long[] {-1, TOO_MUCH, TOO_LARGE_FOR_INT}) {
            refused(10, RefusalTest::busyOffice, x -> x.limit(CUSTOMER, cents), OUTSIDE);
        }
    }

    private static void plans() {
        for (int batch : new int[] {0, -1, NO_BATCH, POSTED, FAILED, REFUSED, PLANNED, TAKES_BACK, OF_COUNT, STANDING}) {
            refused(11, RefusalTest::busyOffice, x -> x.fails(batch, true), NONE);
        }
        refused(11, RefusalTest::busyOffice, x -> x.fails(FAILED, false), NONE);
        refused(11, RefusalTest::busyOffice, x -> x.fails(FULL, false), NONE);
    }

    private static void questions() {
        refused(6, RefusalTest::busyOffice, x -> x.balance(NO_ACCOUNT, 9), UNKNOWN);
        refused(6, RefusalTest::busyOffice, x -> x.balance(CASH, 9), -34);
        refused(12, RefusalTest::busyOffice, x -> x.hold(NO_ACCOUNT), UNKNOWN);
        refused(12, RefusalTest::busyOffice, x -> x.hold(CASH), 90);
        refused(13, RefusalTest::busyOffice, x -> x.rows(), 8);
        refused(14, RefusalTest::busyOffice, x -> x.all(), 0);
    }

    private static void refused(int promise, Consumer<CheckedLedger> calls, Function<CheckedLedger, Answer> call,
            long want) {
        CheckedLedger with = new CheckedLedger(due);
        CheckedLedger without = new CheckedLedger(due);
        due.begin("promise " + promise + ", the calls before");
        calls.accept(with);
        calls.accept(without);
        due.begin("promise " + promise);
        Answer answer = call.apply(with);
        answer.is(want);
        due.begin("promise " + promise + ", \"A call that is refused changes nothing.\", behind " + answer.call());
        List<Answer> got = answersFromNowOn(with);
        List<Answer> wanted = answersFromNowOn(without);
        for (int i = 0; i < got.size(); i++) {
            got.get(i).is(wanted.get(i).got());
        }
    }

    /** Five accounts, nine batches of all standings, days up to 6 closed. */
    private static void busyOffice(CheckedLedger x) {
        x.openOffice();
        x.account(1, 2);
        x.limit(CUSTOMER, 10);
        x.move(5, CASH, OTHER, 30);
        x.moving(5, CASH, OTHER, 40);
        x.fail(9, CASH, OTHER, 50);
        x.post(x.moving(9, CUSTOMER, CASH, 11)).isRefusedByThrowing();
        x.batch(9).is(FULL);
        for (int row = 1; row <= 12; row++) {
            x.row(FULL, CASH, row % 2 == 0 ? 5 : -5).is(true);
        }
        x.fails(x.moving(9, CASH, CUSTOMER, 20), true).is(true);
        x.reverse(1).is(1);
        x.close(6).is(7);
        x.stock(0, 0, -30).is(-30);
        x.move(9, CASH, OTHER, 4);
    }

    private static void officeFullOfAccounts(CheckedLedger x) {
        busyOffice(x);
        for (int number = 6; number <= 60; number++) {
            x.account(1, 0).is(number);
        }
    }

    private static void officeFullOfBatches(CheckedLedger x) {
        busyOffice(x);
        x.fillBatches(300);
    }

    private static void officeWithMuchCash(CheckedLedger x) {
        busyOffice(x);
        x.moveSixLargest(9, OTHER, CASH);
        x.moveSixLargest(9, OTHER, CASH);
    }

    private static List<Answer> answersFromNowOn(CheckedLedger x) {
        List<Answer> answers = new ArrayList<>();
        askAll(x, answers);
        for (int batch = 1; batch <= NO_BATCH; batch++) {
            answers.add(x.fails(batch, true));
            answers.add(x.fails(batch, false));
        }
        for (int account = 1; account <= NO_ACCOUNT; account++) {
            answers.add(x.limit(account, 3));
        }
        answers.add(x.account(0, 2));
        answers.add(x.batch(7));
        answers.add(x.row(PLANNED, CUSTOMER, -1));
        answers.add(x.row(PLANNED, OTHER, 1));
        for (int batch = 1; batch <= NO_BATCH; batch++) {
            answers.add(x.post(batch));
        }
        for (int row = 1; row <= 20; row++) {
            answers.add(x.reverse(row));
        }
        answers.add(x.stock(0, 0, 12));
        answers.add(x.stock(0, 2, 4));
        answers.add(x.stock(1, 2, 4));
        answers.add(x.close(8));
        askAll(x, answers);
        return answers;
    }

    private static void askAll(CheckedLedger x, List<Answer> answers) {
        answers.add(x.rows());
        answers.add(x.all());
        for (int account = 1; account <= NO_ACCOUNT; account++) {
            answers.add(x.hold(account));
            for (long day : new long[] {5, 6, 7, 9, 20001}) {
                answers.add(x.balance(account, day));
            }
        }
    }
}
