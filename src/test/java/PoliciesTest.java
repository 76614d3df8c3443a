/** Promises 17 to 19, 38 to 40, 42: policies, seals, and what is asked of them. */
public final class PoliciesTest {
    private static final Check check = new Check();
    private static final int FOR_EVER = 100_000;

    private static StartLedger withKey() {
        StartLedger x = new StartLedger();
        x.key(-1, 77);
        x.load(0, 0);
        x.open(0, 0);
        return x;
    }

    private static void approve(StartLedger x, int policy) {
        x.approve(0, policy, x.word(0, 2, policy));
    }

    /** All that asks() tells of a policy but its name and those of the same name. */
    private static void asked(StartLedger x, int p, int holds, int outlook, int made, int till, int yet) {
        check.due("38: asks(" + p + ", 0)", x.asks(p, 0), holds);
        check.due("38: asks(" + p + ", 1)", x.asks(p, 1), outlook);
        check.due("38: asks(" + p + ", 3)", x.asks(p, 3), made);
        check.due("38: asks(" + p + ", 4)", x.asks(p, 4), till);
        check.due("38: asks(" + p + ", 5)", x.asks(p, 5), yet);
    }

    /** Promise 17. */
    private static void policyThatCannotBe() {
        StartLedger x = withKey();
        int[][] wrong = {{8, 0, 0}, {-1, 0, 0}, {0, 256, 0}, {0, -1, 0}, {1, 4, 0}, {1, -1, 0}, {1, 0, -1},
            {1, 0, 10_000}, {2, 4, 0}, {2, -1, 0}, {5, 0, -1}, {5, 0, 100_000}, {7, 8, 0}, {7, -1, 0}};
        for (int[] w : wrong) check.refused(x, "17: policy(" + w[0] + ", ..)", x.policy(w[0], w[1], w[2]), -1);
        int[][] none = {{3, 0, 0}, {4, 0, 0}, {6, 1, 0}, {6, -1, 0}};
        for (int[] w : none) check.refused(x, "17: policy(" + w[0] + ", ..)", x.policy(w[0], w[1], w[2]), -2);
        check.due("17: counts(8)", x.counts(8), 0);
        int[][] right = {{0, 255, 9}, {0, 0, -9}, {1, 3, 9999}, {1, 0, 0}, {2, 3, -5}, {2, 0, 5}, {5, -7, 99_999},
            {5, 900, 0}, {6, 0, 4}, {7, 7, -3}, {7, 0, 3}, {3, 0, 10}, {4, 11, 0}};
        for (int i = 0; i < right.length; i++) {
            int[] r = right[i];
            check.act(x, "17: policy(" + r[0] + ", ..)", x.policy(r[0], r[1], r[2]), i, 0);
            check.due("17: its sort", x.of(i, 3), r[0]);
            check.due("17: its a", x.of(i, 4), r[0] == 5 ? 0 : r[1]);
        }
        check.refused(x, "17: policy(3, 0, 13)", x.policy(3, 0, 13), -2);
        check.refused(x, "17: policy(3, 13, 0)", x.policy(3, 13, 0), -2);
        check.refused(x, "17: policy(4, -1, 0)", x.policy(4, -1, 0), -2);
        check.refused(x, "17: policy(4, 0, -1)", x.policy(4, 0, -1), -2);
    }

    private static void policyWithoutRoom() {
        StartLedger x = new StartLedger();
        for (int i = 0; i < 23; i++) check.due("17: policy(2, 0, 0)", x.policy(2, 0, 0), i);
        check.due("17: policy(5, 0, 1)", x.policy(5, 0, 1), 23);
        check.refused(x, "17: the twenty-fifth", x.policy(2, 0, 0), -5);
        check.refused(x, "17: -1 comes ahead of -5", x.policy(2, 4, 0), -1);
        check.refused(x, "17: -2 comes ahead of -5", x.policy(6, 0, 0), -2);
        x = new StartLedger();
        x.policy(2, 0, 0);
        for (int i = 1; i < 20; i++) check.due("17: policy(3, i, 0)", x.policy(3, i - 1, 0), i);
        check.due("17: it is made of", x.asks(19, 3), 39);
        check.refused(x, "17: it would be made of 41", x.policy(4, 19, 0), -5);
        check.refused(x, "17: it would be made of 41", x.policy(3, 0, 19), -5);
        check.due("17: counts(8)", x.counts(8), 20);
    }

    /** Promise 18. */
    private static void policyNow() {
        StartLedger x = new StartLedger();
        x.measure(1, 5);
        check.refused(x, "18: policyNow(256)", x.policyNow(256), -1);
        check.refused(x, "18: policyNow(-1)", x.policyNow(-1), -1);
        check.act(x, "18: policyNow(2)", x.policyNow(2), 0, 0);
        check.act(x, "18: policyNow(255)", x.policyNow(255), 1, 0);
        check.act(x, "18: policyNow(0)", x.policyNow(0), 2, 0);
        check.due("18: its sort", x.of(0, 3), 0);
        check.due("18: its a", x.of(0, 4), 2);
        check.due("18: its name", x.asks(0, 2), Check.hash(0, 2, x.digest(2)));
        check.due("18: it holds", x.asks(1, 0), 1);
        x.extend(0, 1);
        check.due("18: it holds", x.asks(0, 0), 1);
        check.due("18: it does not hold", x.asks(1, 0), 0);
        check.due("18: it holds", x.asks(2, 0), 1);
        for (int i = 3; i < 24; i++) x.policyNow(1);
        check.refused(x, "18: no room", x.policyNow(1), -5);
        check.refused(x, "18: -1 comes ahead of -5", x.policyNow(256), -1);
    }

    /** Promise 19. */
    private static void seal() {
        StartLedger x = withKey();
        check.refused(x, "19: seal(1, ..)", x.seal(1, 5, -1), -2);
        check.refused(x, "19: seal(-1, ..)", x.seal(-1, 5, -1), -2);
        check.refused(x, "19: seal(3, ..)", x.seal(3, 5, -1), -2);
        check.refused(x, "19: seal(0, 5, 0)", x.seal(0, 5, 0), -2);
        check.refused(x, "19: seal(0, 5, -2)", x.seal(0, 5, -2), -2);
        x.policy(2, 1, 0);
        check.act(x, "19: seal(0, 5, 0)", x.seal(0, 5, 0), 0, 0);
        check.due("19: its key", x.of(0, 1), 0);
        check.due("19: its policy", x.of(0, 2), 0);
        for (int i = 1; i < 10; i++) check.act(x, "19: seal(0, i, -1)", x.seal(0, i, -1), i, 0);
        check.due("19: its policy", x.of(9, 2), -1);
        check.due("19: its secret", x.unseal(0, 9, x.word(0, 1, 9)), 9);
        check.refused(x, "19: the eleventh", x.seal(0, 5, 0), -5);
        check.refused(x, "19: -2 comes ahead of -5", x.seal(0, 5, 1), -2);
        check.due("19: counts(9)", x.counts(9), 10);
    }

    /** Promise 38, of policies that are not joined. */
    private static void asksOfEach() {
        StartLedger x = withKey();
        x.policyNow(1);
        x.policy(0, 192, 5);
        x.policy(0, 0, 17);
        x.policy(0, 0, 16);
        x.policy(1, 2, 0);
        x.policy(2, 2, 0);
        x.policy(5, 0, 10);
        x.policy(7, 3, 8);
        x.policy(7, 6, 8);
        x.policy(1, 0, 1);
        asked(x, 9, 1, 0, 1, FOR_EVER, 0);
        x.count(0, 0, x.word(0, 3, 0));
        asked(x, 9, 1, 0, 1, FOR_EVER, 0);
        x.count(0, 0, x.word(0, 3, 0));
        asked(x, 9, 0, 2, 1, -1, 1);
        asked(x, 0, 1, 0, 1, FOR_EVER, 0);
        asked(x, 1, 0, 1, 1, -1, 1);
        asked(x, 2, 1, 0, 1, FOR_EVER, 0);
        asked(x, 3, 0, 1, 1, -1, 1);
        asked(x, 4, 1, 0, 1, FOR_EVER, 0);
        asked(x, 5, 0, 1, 1, -1, 1);
        asked(x, 6, 1, 0, 1, 10, 0);
        asked(x, 7, 0, 1, 1, -1, 1);
        x.extend(0, 1);
        asked(x, 0, 0, 2, 1, -1, 1);
        x.count(0, 2, x.word(0, 3, 2));
        asked(x, 4, 0, 2, 1, -1, 1);
        x.locality(2);
        asked(x, 5, 1, 0, 1, FOR_EVER, 0);
        x.locality(3);
        asked(x, 5, 1, 0, 1, FOR_EVER, 0);
        x.tick(10);
        asked(x, 6, 1, 0, 1, 10, 0);
        x.tick(1);
        asked(x, 6, 0, 2, 1, 10, 1);
        x.measure(2, 8);
        asked(x, 7, 0, 1, 1, -1, 1);
        x.measure(3, 8);
        asked(x, 7, 1, 0, 1, FOR_EVER, 0);
        x.measure(3, 9);
        asked(x, 7, 1, 0, 1, FOR_EVER, 0);
        x.extend(3, 1);
        asked(x, 7, 0, 2, 1, -1, 1);
        x.measure(6, 8);
        asked(x, 8, 1, 0, 1, FOR_EVER, 0);
        x.extend(6, 8);
        asked(x, 8, 0, 1, 1, -1, 1);
    }

    /** Promise 38, of policies that are joined, and promise 39. */
    private static void asksOfJoined() {
        StartLedger x = new StartLedger();
        x.policy(2, 1, 0);   // 0: may come to hold
        x.policy(2, 0, 0);   // 1: holds
        x.policy(0, 1, 5);   // 2: is lost
        x.policy(5, 0, 10);  // 3: holds till 10
        x.policy(5, 0, 20);  // 4: holds till 20
        x.policy(3, 0, 1);   // 5
        x.policy(3, 0, 2);   // 6
        x.policy(4, 0, 2);   // 7
        x.policy(4, 2, 1);   // 8
        x.policy(3, 3, 4);   // 9
        x.policy(4, 3, 4);   // 10
        x.policy(3, 6, 6);   // 11
        x.policy(4, 6, 0);   // 12
        x.policy(3, 4, 1);   // 13
        asked(x, 5, 0, 1, 3, -1, 1);
        asked(x, 6, 0, 2, 3, -1, 2);
        asked(x, 7, 0, 1, 3, -1, 1);
        asked(x, 8, 1, 0, 3, FOR_EVER, 0);
        asked(x, 9, 1, 0, 3, 10, 0);
        asked(x, 10, 1, 0, 3, 20, 0);
        asked(x, 11, 0, 2, 7, -1, 4);
        asked(x, 12, 0, 1, 5, -1, 1);
        asked(x, 13, 1, 0, 3, 20, 0);
        int[] why = {1, 0, 4, 0, 0, 1, 5, 5, 0, 0, 0, 5, 5, 0};
        for (int p = 0; p < why.length; p++) check.due("39: why(" + p + ")", x.why(p), why[p]);
        x.locality(1);
        x.tick(11);
        int[] later = {0, 0, 4, 8, 0, 0, 4, 0, 0, 8, 0, 4, 0, 0};
        for (int p = 0; p < later.length; p++) check.due("39: why(" + p + ")", x.why(p), later[p]);
        asked(x, 9, 0, 2, 3, 10, 1);
        asked(x, 10, 1, 0, 3, 20, 0);
        asked(x, 6, 0, 2, 3, -1, 1);
        for (int what = -1; what < 8; what++) {
            check.due("38: asks(14, " + what + ")", x.asks(14, what), -1);
            check.due("38: asks(-1, " + what + ")", x.asks(-1, what), -1);
        }
        check.due("38: asks(0, 7)", x.asks(0, 7), -1);
        check.due("38: asks(0, -1)", x.asks(0, -1), -1);
        check.due("39: why(14)", x.why(14), -1);
        check.due("39: why(-1)", x.why(-1), -1);
    }

    /** Promise 38, names. */
    private static void names() {
        StartLedger x = withKey();
        x.policy(2, 1, 9);
        x.policy(2, 1, 8);
        x.policy(5, 3, 4);
        x.policy(5, 6, 4);
        x.policy(6, 0, 4);
        x.policy(7, 1, 4);
        x.policy(3, 0, 2);
        x.policy(3, 1, 3);
        x.policy(3, 2, 0);
        x.policy(4, 0, 2);
        int local = Check.hash(2, 1, 0);
        int time = Check.hash(5, 0, 4);
        int[] due = {local, local, time, time, Check.hash(6, 0, 0), Check.hash(7, 1, 4), Check.hash(3, local, time),
            Check.hash(3, local, time), Check.hash(3, time, local), Check.hash(4, local, time)};
        int[] alike = {3, 3, 12, 12, 16, 32, 192, 192, 256, 512};
        for (int p = 0; p < due.length; p++) {
            check.due("38: asks(" + p + ", 2)", x.asks(p, 2), due[p]);
            check.due("38: asks(" + p + ", 6)", x.asks(p, 6), alike[p]);
        }
    }

    /** Promise 38, what a key has signed. */
    private static void signed() {
        StartLedger x = withKey();
        x.key(-1, 5);
        x.policy(6, 0, 0);   // 0: signed by key 0
        x.policy(6, 1, 0);   // 1: signed by key 1
        x.policy(2, 1, 0);   // 2: locality 1
        x.policy(5, 0, 7);   // 3: till 7
        x.policy(5, 0, 9);   // 4: till 9
        x.policy(4, 0, 3);   // 5: signed or till 7
        x.policy(3, 0, 4);   // 6: signed and till 9
        asked(x, 0, 0, 1, 1, -1, 1);
        approve(x, 2);
        asked(x, 0, 0, 1, 1, -1, 1);
        check.due("39: why(0)", x.why(0), 1);
        x.locality(1);
        asked(x, 0, 1, 0, 1, FOR_EVER, 0);
        asked(x, 1, 0, 1, 1, -1, 1);
        x.locality(0);
        approve(x, 0);
        asked(x, 0, 0, 1, 1, -1, 1);
        approve(x, 6);
        asked(x, 0, 0, 1, 1, -1, 1);
        approve(x, 5);
        asked(x, 0, 1, 0, 1, 7, 0);
        asked(x, 6, 1, 0, 3, 7, 0);
        approve(x, 4);
        asked(x, 0, 1, 0, 1, 9, 0);
        x.tick(10);
        asked(x, 0, 0, 1, 1, 9, 1);
        asked(x, 6, 0, 2, 3, 9, 2);
        asked(x, 5, 0, 1, 3, 9, 1);
        x.locality(1);
        asked(x, 0, 1, 0, 1, FOR_EVER, 0);
        x.start();
        asked(x, 0, 0, 1, 1, 9, 1);
        x = withKey();
        x.policy(2, 0, 0);
        x.policy(6, 0, 0);
        asked(x, 1, 0, 1, 1, -1, 1);
        approve(x, 0);
        asked(x, 1, 1, 0, 1, FOR_EVER, 0);
    }

    /** Promise 40. */
    private static void seals() {
        StartLedger x = withKey();
        x.key(-1, 1);
        x.load(0, 1);
        x.policy(2, 1, 0);
        x.policyNow(1);
        x.policyNow(64);
        x.seal(0, 1, -1);
        x.seal(0, 1, 0);
        x.seal(0, 1, 1);
        x.seal(1, 1, 1);
        x.seal(1, 1, 2);
        check.due("40: seals(0)", x.seals(0), 29);
        check.due("40: seals(1)", x.seals(1), 0);
        x.flush(1);
        check.due("40: seals(0)", x.seals(0), 5);
        x.locality(1);
        x.extend(0, 1);
        x.extend(6, 1);
        check.due("40: seals(0)", x.seals(0), 3);
        check.due("40: lost, loaded or not", x.seals(1), 12);
        check.due("40: seals(2)", x.seals(2), -1);
        check.due("40: seals(-1)", x.seals(-1), -1);
        x.start();
        check.due("40: no key is loaded", x.seals(0), 0);
        check.due("40: none is lost", x.seals(1), 0);
        x = withKey();
        x.policyNow(1);
        x.seal(0, 1, 0);
        x.extend(0, 1);
        check.due("40: seals(1)", x.seals(1), 1);
        check.due("40: seals(0)", x.seals(0), 0);
        check.due("42: foreseen(0)", x.foreseen(0), 1);
        x.claim(0, 3);
        check.due("42: foreseen(0)", x.foreseen(0), 0);
    }

    /** Promise 42. */
    private static void foreseen() {
        StartLedger x = withKey();
        x.locality(3);
        x.measure(0, 5);
        x.measure(6, 6);
        x.policyNow(1);      // 0: as by the claim
        x.policyNow(64);     // 1: as by the claim, but from locality 1 on
        x.policy(2, 2, 0);   // 2
        x.policy(7, 0, 5);   // 3
        x.policy(7, 6, 6);   // 4
        x.policy(5, 0, 5);   // 5
        x.policy(0, 128, Check.hash(-1)); // 6: as at first
        x.seal(0, 1, -1);
        for (int p = 0; p < 7; p++) x.seal(0, 1, p);
        x.extend(7, 1);
        check.due("42: foreseen(3), nothing claimed", x.foreseen(3), 1 + 8 + 64 + 128);
        x.claimAs(0);
        check.due("42: foreseen(3)", x.foreseen(3), 255);
        check.due("42: foreseen(2)", x.foreseen(2), 255);
        check.due("42: foreseen(1)", x.foreseen(1), 255 - 8);
        check.due("42: foreseen(0)", x.foreseen(0), 255 - 8 - 4 - 32);
        check.due("42: it is on paper alone", x.counts(3), 2);
        check.due("42: it is on paper alone", x.counts(2), 1);
        x.start();
        check.due("42: the key need not be loaded", x.foreseen(2), 255);
        x.tick(6);
        check.due("42: time is as it is", x.foreseen(2), 255 - 64);
        check.due("42: foreseen(4)", x.foreseen(4), -1);
        check.due("42: foreseen(-1)", x.foreseen(-1), -1);
    }

    public static void main(String[] args) {
        policyThatCannotBe();
        policyWithoutRoom();
        policyNow();
        seal();
        asksOfEach();
        asksOfJoined();
        names();
        signed();
        seals();
        foreseen();
        check.end("PoliciesTest");
    }
}
