import java.math.BigInteger;
import java.util.Arrays;
import java.util.function.IntSupplier;

/** What the tests of the edges share: a call is held against all that can be asked of its object. */
final class Edge {
    private static final BigInteger ALL_INTS = BigInteger.ONE.shiftLeft(32);
    private static final BigInteger FACTOR = BigInteger.valueOf(-1_640_531_535L);

    private final Check check = new Check();

    void due(String call, long got, long want) {
        check.due(call, got, want);
    }

    void truth(String what, boolean is) {
        check.due(what, is ? 1 : 0, 1);
    }

    void end(String test) {
        check.end(test);
    }

    /** Not REFUSED: the answer, the status, and no refusal more. */
    void taken(StartLedger x, String call, int want, IntSupplier act) {
        int[] told = told(x);
        due(call, act.getAsInt(), want);
        due(call + ": status()", x.status(), 0);
        truth(call + ": no refusal more", Arrays.equals(told, told(x)));
    }

    /** REFUSED without a session: it is told, and nothing is changed. */
    void refused(StartLedger x, String call, int by, IntSupplier act) {
        refusedWith(x, call, by, by, act);
    }

    /** The same of a call that may tell any int. */
    void refusedAny(StartLedger x, String call, int by, IntSupplier act) {
        refusedWith(x, call, 0, by, act);
    }

    private void refusedWith(StartLedger x, String call, int answer, int by, IntSupplier act) {
        String before = Seen.of(x);
        int undos = x.counts(17);
        int[] told = told(x);
        told[-1 - by]++;
        due(call, act.getAsInt(), answer);
        due(call + ": status()", x.status(), by);
        truth(call + ": one refusal more", Arrays.equals(told, told(x)));
        truth(call + ": nothing is changed", Seen.of(x).equals(before));
        due(call + ": nothing more can be undone", x.counts(17), undos);
    }

    /** How many calls were refused by -1 .. -7. */
    static int[] told(StartLedger x) {
        int[] told = new int[7];
        for (int i = 0; i < 7; i++) told[i] = x.counts(18 + i);
        return told;
    }

    /** Numbers just outside a range, and far from it. */
    static int[] outside(int least, int most) {
        return new int[] {Integer.MIN_VALUE, least - 256, least - 2, least - 1, most + 1, most + 2, most + 256,
            Integer.MAX_VALUE};
    }

    /** The same, but for NONE, where that may be told. */
    static int[] outsideButNone(int most) {
        return new int[] {Integer.MIN_VALUE, -256, -3, -2, most + 1, most + 2, most + 256, Integer.MAX_VALUE};
    }

    /** MIX once more, by numbers that do not wrap by themselves. */
    static int mixWide(int a, int b) {
        long turned = ((b & 0xFFFFFFFFL) << 7 | (b & 0xFFFFFFFFL) >> 25) & 0xFFFFFFFFL;
        BigInteger x = BigInteger.valueOf((a & 0xFFFFFFFFL) ^ turned);
        BigInteger wide = x.multiply(FACTOR).add(BigInteger.valueOf(97)).mod(ALL_INTS);
        return wide.xor(wide.shiftRight(15)).intValue();
    }

    /** The number by which a register that is from becomes to. */
    static int numberFor(int from, int to) {
        int x = to ^ (to >>> 15) ^ (to >>> 30);
        int unmixed = (x - 97) * FACTOR.modInverse(ALL_INTS).intValue();
        return Integer.rotateRight(unmixed ^ from, 7);
    }

    /** The wrong words that lock, said by a session; its nonce and audit go on by them. */
    static void strain(StartLedger x, int session, int many) {
        for (int i = 0; i < many; i++) x.renew(session, 0, x.word(session, 4, 0) + 1);
    }
}
