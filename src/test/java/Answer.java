/** What a call answered, to be held against what is due. */
record Answer(Due due, String call, long got) {
    void is(long want) {
        due.is(call, got, want);
    }

    void is(boolean want) {
        due.is(call, got, want ? 1 : 0);
    }

    void isRefusedByThrowing() {
        is(Due.THROWS);
    }

    int number() {
        return (int) got;
    }
}
