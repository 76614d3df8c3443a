/** What the tests share: the count of wrong answers, and the document's MIX and HASH. */
final class Check {
    private int wrong;
    private int asked;

    /** Holds one answer against the one that is due. */
    void due(String call, long got, long want) {
        asked++;
        if (got == want) return;
        wrong++;
        System.out.println(call + " answered " + got + ", due is " + want);
    }

    /** As due, and the status behind the call. */
    void act(StartLedger x, String call, long got, long want, int status) {
        due(call, got, want);
        due(call + ": status()", x.status(), status);
    }

    void refused(StartLedger x, String call, long got, int by) {
        act(x, call, got, by, by);
    }

    void refusedAny(StartLedger x, String call, long got, int by) {
        act(x, call, got, 0, by);
    }

    void end(String test) {
        if (wrong != 0) {
            System.out.println(test + ": " + wrong + " of " + asked + " answers are not as due");
            System.exit(1);
        }
        if (asked == 0) {
            System.out.println(test + ": nothing was asked");
            System.exit(1);
        }
        System.out.println(test + ": " + asked + " answers as due");
    }

    static int mix(int a, int b) {
        return Model.mix(a, b);
    }

    static int hash(int... numbers) {
        return Model.hash(numbers);
    }
}
