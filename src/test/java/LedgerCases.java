/**
 * What the classes of cases have in common. A case is a static method with @Says that takes a new ledger; the other
 * methods of such a class are private.
 */
abstract class LedgerCases {
    static final int UNKNOWN = PostLedger.UNKNOWN, OUTSIDE = PostLedger.OUTSIDE;
    static final int STATE = PostLedger.STATE, ROOM = PostLedger.ROOM;
    static final int MIN = Integer.MIN_VALUE, MAX = Integer.MAX_VALUE;
    static final long MIN_LONG = Long.MIN_VALUE, MAX_LONG = Long.MAX_VALUE;
    /** A long that is 0 when it is cut down to an int. */
    static final long WRAP = 1L << 32;
    static final long MOST = 100000000L;
    static final long LAST = 20000;
    /** The accounts of CheckedLedger.openOffice. */
    static final int CASH = 1, CUSTOMER = 2, OTHER = 3, DIFFERENCE = 4;
}
