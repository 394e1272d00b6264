/** Counts and prints the answers that are not as due. */
final class Due {
    /** What a post that throws IllegalStateException counts as: no other answer has this number. */
    static final long THROWS = Long.MIN_VALUE;

    private int wrong = 0;
    private String test = "";

    /** Names the test that the answers from now on belong to. */
    void begin(String name) {
        test = name + ": ";
    }

    void is(String call, long got, long want) {
        if (got != want) {
            fault(call + " answered " + told(got) + ", due is " + told(want));
        }
    }

    void fault(String words) {
        wrong++;
        System.out.println(test + words);
    }

    int wrong() {
        return wrong;
    }

    void endProgram(String name) {
        System.out.println(name + ": " + (wrong == 0 ? "all answers are as due" : wrong + " answers are not as due"));
        if (wrong != 0) {
            System.exit(1);
        }
    }

    static long post(PostLedger ledger, int batch) {
        try {
            return ledger.post(batch);
        } catch (IllegalStateException refused) {
            return THROWS;
        }
    }

    private static String told(long answer) {
        return answer == THROWS ? "throws.IllegalStateException" : Long.toString(answer);
    }
}
