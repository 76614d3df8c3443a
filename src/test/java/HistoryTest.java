/** Promises 26 to 28, 52, 53: acts taken back, images, counts, the status. */
public final class HistoryTest {
    private static final Check check = new Check();

    /** Does the act that undo() tells by that number. */
    private static void act(StartLedger x, int which) {
        switch (which) {
            case 0: x.start(); break;
            case 1: x.locality(3); break;
            case 2: x.tick(7); break;
            case 3: x.measure(2, 3); break;
            case 4: x.extend(2, 3); break;
            case 5: x.reset(6); break;
            case 6: x.claim(2, 3); break;
            case 7: x.claimAs(0); break;
            case 8: x.forge(0, 99); break;
            case 9: x.key(0, 5); break;
            case 10: x.load(0, 2); break;
            case 11: x.flush(0); break;
            case 12: x.swapOut(0); break;
            case 13: x.swapIn(0); break;
            case 14: x.drop(1); break;
            case 15: x.policy(2, 3, 0); break;
            case 16: x.seal(0, 5, 0); break;
            case 17: x.open(0, 5); break;
            case 18: x.close(0); break;
            case 19: x.unseal(0, 0, x.word(0, 1, 0)); break;
            case 20: x.approve(0, 0, x.word(0, 2, 0)); break;
            case 21: x.count(0, 3, x.word(0, 3, 3)); break;
            default: x.renew(0, 6, x.word(0, 4, 6)); break;
        }
    }

    /** An object on which every act can be: key 1 is swapped, session 0 is open on key 0. */
    private static StartLedger ready() {
        StartLedger x = new StartLedger();
        x.locality(2);
        x.measure(1, 2);
        x.claim(4, 5);
        for (int k = 0; k < 3; k++) x.key(-1, 10 + k);
        x.load(0, 0);
        x.load(0, 1);
        x.swapOut(1);
        x.policy(2, 0, 0);
        x.seal(0, 44, 0);
        x.open(0, 7);
        x.renew(0, 0, 12);
        return x;
    }

    /** Promise 26. */
    private static void undoOfEach() {
        for (int which = 0; which <= 22; which++) {
            StartLedger x = ready();
            String before = Seen.of(x);
            act(x, which);
            check.due("26: act " + which + ": status()", x.status(), 0);
            check.due("26: act " + which + " is to be seen", Seen.of(x).equals(before) ? 1 : 0, 0);
            check.act(x, "26: undo() of " + which, x.undo(), which, 0);
            check.due("26: all is as it was behind the undo of " + which, Seen.of(x).equals(before) ? 1 : 0, 1);
        }
        StartLedger x = ready();
        x.policyNow(3);
        check.due("26: undo() of policyNow()", x.undo(), 15);
        check.due("26: counts(8)", x.counts(8), 1);
        x.locality(2);
        check.due("26: undo() of what changed nothing", x.undo(), 1);
    }

    private static void undoOfRefused() {
        StartLedger x = ready();
        x.tick(1);
        x.locality(4);
        x.flush(1);
        x.swapIn(5);
        x.drop(0);
        x.load(0, 0);
        check.due("26: what is refused without a session is not kept", x.undo(), 2);
        x = ready();
        x.seal(0, 3, -1);
        x.load(0, 2);
        x.seal(1, 3, -1);
        x.tick(1);
        x.unseal(0, 9, 0);
        x.count(0, 4, 0);
        check.due("26: refused by -1, -2 it is not kept", x.counts(17), 8);
        check.due("26: but this", x.undo(), 2);
        String before = Seen.of(x);
        x.unseal(0, 2, 0);
        check.due("26: -4 by a session", x.status(), -4);
        check.due("26: is undone", x.undo(), 19);
        check.due("26: all is as it was", Seen.of(x).equals(before) ? 1 : 0, 1);
        for (int i = 0; i < 2; i++) x.count(0, 0, 1);
        check.due("26: locked()", x.locked(), 1);
        x.renew(0, 1, 1);
        check.due("26: -3 by a session", x.status(), -3);
        check.due("26: is undone", x.undo(), 22);
        check.due("26: -6 by a session is undone", x.undo(), 21);
        check.due("26: -6 by a session is undone", x.undo(), 21);
        check.due("26: all is as it was", Seen.of(x).equals(before) ? 1 : 0, 1);
        check.due("26: but what is told of refused calls", x.counts(23), 3);
        check.due("26: but what is told of refused calls", x.counts(20), 1);
        x.policy(2, 3, 0);
        x.seal(0, 9, 1);
        x.unseal(0, 3, x.word(0, 1, 3));
        check.due("26: -7 by a session", x.status(), -7);
        check.due("26: is undone", x.undo(), 19);
        x.locality(3);
        for (int p = 0; p < 8; p++) x.policy(2, 0, 0);
        for (int p = 2; p < 10; p++) x.approve(0, p, x.word(0, 2, p));
        x.approve(0, 0, 0);
        check.due("26: -5 by a session", x.status(), -5);
        check.due("26: is undone", x.undo(), 20);
    }

    private static void undoOfMany() {
        StartLedger x = new StartLedger();
        check.refused(x, "26: there is none", x.undo(), -4);
        for (int i = 1; i <= 11; i++) {
            x.claim(0, i);
            check.due("26: counts(17)", x.counts(17), Math.min(i, 8));
        }
        for (int i = 0; i < 3; i++) check.due("26: undo()", x.undo(), 6);
        check.due("26: counts(4)", x.counts(4), 8);
        x.tick(1);
        check.due("26: undo()", x.undo(), 2);
        for (int i = 0; i < 5; i++) check.due("26: undo()", x.undo(), 6);
        check.refused(x, "26: 8 are kept", x.undo(), -4);
        check.due("26: counts(4)", x.counts(4), 3);
        check.due("26: entry(1, 2, 1)", x.entry(1, 2, 1), 3);
        check.due("26: counts(17)", x.counts(17), 0);
        check.due("26: counts(21)", x.counts(21), 2);
    }

    /** Promises 27, 28. */
    private static void images() {
        StartLedger x = ready();
        check.refused(x, "27: image(2)", x.image(2), -1);
        check.refused(x, "27: image(-1)", x.image(-1), -1);
        check.refused(x, "28: back(0)", x.back(0), -4);
        check.refused(x, "28: back(2)", x.back(2), -1);
        check.refused(x, "28: back(-1)", x.back(-1), -1);
        x.tick(5);
        String first = Seen.of(x);
        check.act(x, "27: image(0)", x.image(0), 5, 0);
        check.due("27: it is no act to be undone", x.counts(17), 8);
        for (int which = 0; which <= 22; which++) act(x, which);
        x.locality(9);
        x.tick(3);
        String second = Seen.of(x);
        int time = x.counts(1);
        check.act(x, "27: image(1)", x.image(1), time, 0);
        int refused = x.counts(18);
        check.act(x, "28: back(0)", x.back(0), 5, 0);
        check.due("28: all is as it was", Seen.of(x).equals(first) ? 1 : 0, 1);
        check.due("28: but what is told of refused calls", x.counts(18), refused);
        check.due("28: nothing can be undone", x.counts(17), 0);
        check.refused(x, "28: nothing can be undone", x.undo(), -4);
        x.locality(3);
        check.act(x, "28: back(1)", x.back(1), time, 0);
        check.due("28: all is as it was", Seen.of(x).equals(second) ? 1 : 0, 1);
        act(x, 4);
        check.act(x, "28: back(0) once more", x.back(0), 5, 0);
        check.due("28: all is as it was", Seen.of(x).equals(first) ? 1 : 0, 1);
        x.tick(1);
        x.image(0);
        x.undo();
        check.act(x, "28: an image is kept anew, and is not undone", x.back(0), 6, 0);
    }

    /** Rows that another life of the object wrote over come back with the image. */
    private static void imagesOfOtherLives() {
        StartLedger x = new StartLedger();
        x.image(0);
        liveBy(x, 1);
        String first = Seen.of(x);
        x.image(1);
        x.back(0);
        x.start();
        liveBy(x, 2);
        check.due("27: it is another life", Seen.of(x).equals(first) ? 1 : 0, 0);
        x.back(1);
        check.due("28: all is as it was", Seen.of(x).equals(first) ? 1 : 0, 1);
        check.act(x, "28: its secret", x.unseal(0, 0, x.word(0, 1, 0)), 71, 0);
        check.act(x, "28: its context is of this start", x.swapIn(0), 1, 0);
        x.undo();
        x.undo();
        check.due("28: all is as it was", Seen.of(x).equals(first) ? 1 : 0, 1);
    }

    private static void liveBy(StartLedger x, int n) {
        for (int k = 0; k < 3; k++) x.key(-1, 10 * n + k);
        x.load(0, n - 1);
        x.load(0, n);
        x.policy(2, n, 0);
        x.policy(3, 0, 0);
        if (n == 2) x.policy(3, 1, 1);
        else x.policy(5, 0, 5);
        x.seal(0, 70 + n, n == 1 ? -1 : 0);
        x.seal(1, 80 + n, n);
        x.open(0, n);
        x.approve(0, 3 - n, x.word(0, 2, 3 - n));
        x.policy(6, n - 1, 0);
        x.swapOut(1);
    }

    /** Promise 52. */
    private static void counts() {
        StartLedger x = ready();
        int[] due = {2, 0, 1, 1, 1, 3, 1, 1, 1, 1, 1, 1, 0, 0, 0, 0, 0, 8, 0, 0, 0, 0, 0, 1, 0};
        for (int what = 0; what < due.length; what++) check.due("52: counts(" + what + ")", x.counts(what), due[what]);
        check.due("52: counts(25)", x.counts(25), -1);
        check.due("52: counts(-1)", x.counts(-1), -1);
        x.tick(2);
        x.start();
        x.load(0, 1);
        x.load(0, 2);
        x.flush(0);
        x.measure(0, 0);
        x.measure(0, 0);
        for (int i = 0; i < 3; i++) x.open(1, 0);
        x.close(1);
        x.count(0, 1, x.word(0, 3, 1));
        x.count(0, 3, x.word(0, 3, 3));
        x.count(0, 3, x.word(0, 3, 3));
        x.approve(2, 0, x.word(2, 2, 0));
        int[] later = {0, 2, 2, 2, 1, 3, 2, 1, 1, 1, 5, 4, 0, 1, 0, 2, 1, 8};
        for (int w = 0; w < later.length; w++) check.due("52: counts(" + w + ")", x.counts(w), later[w]);
    }

    private static void countsOfRefused() {
        StartLedger x = ready();
        x.policy(2, 3, 0);
        x.seal(0, 1, 1);
        x.locality(4);       // -1
        x.image(3);          // -1
        x.flush(2);          // -2
        x.unseal(0, 7, 0);   // -2
        x.load(0, 1);        // -4
        x.back(1);           // -4
        for (int i = 0; i < 7; i++) x.key(-1, 1);
        x.key(-1, 1);        // -5
        x.unseal(0, 1, x.word(0, 1, 1)); // -7
        x.renew(0, 1, 1);    // -6
        x.renew(0, 1, 1);    // -6
        x.renew(0, 1, 1);    // -3
        x.renew(0, 1, 1);    // -3
        int[] due = {2, 2, 2, 2, 1, 3, 1};
        for (int i = 0; i < 7; i++) check.due("52: counts(" + (18 + i) + ")", x.counts(18 + i), due[i]);
        x.word(9, 9, 9);
        x.asks(99, 0);
        x.wrong(7);
        x.register(8);
        x.reach(9, 0);
        for (int i = 0; i < 7; i++) check.due("52: a question is not refused", x.counts(18 + i), due[i]);
    }

    /** Promise 53. */
    private static void status() {
        StartLedger x = new StartLedger();
        check.due("53: ahead of any", x.status(), 0);
        x.locality(4);
        check.due("53: status()", x.status(), -1);
        x.register(9);
        x.asks(0, 0);
        x.mended();
        check.due("53: questions leave it", x.status(), -1);
        x.image(0);
        check.due("53: by image()", x.status(), 0);
        x.back(1);
        check.due("53: by back()", x.status(), -4);
        x.back(0);
        check.due("53: by back()", x.status(), 0);
        x.undo();
        check.due("53: by undo()", x.status(), -4);
        x.claim(0, 0);
        check.due("53: status()", x.status(), 0);
        x.forge(1, 0);
        check.due("53: status()", x.status(), -2);
        x.undo();
        check.due("53: by undo()", x.status(), 0);
        x.image(5);
        check.due("53: by image()", x.status(), -1);
        x.start();
        check.due("53: status()", x.status(), 0);
    }

    public static void main(String[] args) {
        undoOfEach();
        undoOfRefused();
        undoOfMany();
        images();
        imagesOfOtherLives();
        counts();
        countsOfRefused();
        status();
        check.end("HistoryTest");
    }
}
