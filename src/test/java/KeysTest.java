/** Promises 11 to 16, 41, 45 to 47: keys, slots, contexts, and the ways to a seal. */
public final class KeysTest {
    private static final Check check = new Check();

    /** Keys 0, 1, 2 below one another, and 3, 4 below none; 0, 1, 2 loaded in slots 0, 1, 2. */
    private static StartLedger chain() {
        StartLedger x = new StartLedger();
        x.key(-1, 100);
        x.load(0, 0);
        x.key(0, 200);
        x.load(0, 1);
        x.key(1, 300);
        x.load(0, 2);
        x.key(-1, 400);
        x.key(-1, 500);
        return x;
    }

    /** Promise 11. */
    private static void key() {
        StartLedger x = new StartLedger();
        check.refused(x, "11: key(0, 1)", x.key(0, 1), -2);
        check.act(x, "11: key(NONE, 100)", x.key(StartLedger.NONE, 100), 0, 0);
        check.due("11: it is not loaded", x.ofKey(0, 1), -1);
        check.due("11: it is below none", x.ofKey(0, 0), -1);
        check.refused(x, "11: key(-2, 1)", x.key(-2, 1), -2);
        check.refused(x, "11: key(3, 1)", x.key(3, 1), -2);
        x.load(0, 0);
        check.refused(x, "11: key(1, 1)", x.key(1, 1), -2);
        check.act(x, "11: key(0, 200)", x.key(0, 200), 1, 0);
        check.due("11: its parent", x.ofKey(1, 0), 0);
        for (int i = 2; i < 10; i++) check.due("11: key(-1, i)", x.key(-1, i), i);
        check.refused(x, "11: the eleventh", x.key(-1, 1), -5);
        check.refused(x, "11: -2 comes ahead of -5", x.key(2, 1), -2);
        check.due("11: counts(5)", x.counts(5), 10);
        check.due("11: its secret is heard", x.quote(0, 0, 0), Check.mix(Check.hash(17, 0, 1, 0), 100));
    }

    /** Promise 12. */
    private static void load() {
        StartLedger x = new StartLedger();
        check.refused(x, "12: load(2, 0)", x.load(2, 0), -1);
        check.refused(x, "12: load(-1, 0)", x.load(-1, 0), -1);
        check.refused(x, "12: load(0, 0)", x.load(0, 0), -2);
        check.refused(x, "12: load(1, 0)", x.load(1, 0), -2);
        x.key(-1, 100);
        check.refused(x, "12: load(0, 1)", x.load(0, 1), -2);
        check.refused(x, "12: load(0, -1)", x.load(0, -1), -2);
        check.act(x, "12: load(0, 0)", x.load(0, 0), 0, 0);
        check.refused(x, "12: it is loaded", x.load(0, 0), -4);
        x.seal(0, 1, -1);
        check.refused(x, "12: a seal can't be", x.load(1, 0), -4);
        check.refused(x, "12: no such seal", x.load(1, 1), -2);
        x.key(-1, 2);
        x.seal(0, 1, -1);
        check.refused(x, "12: a seal can't be, though a key of that number can", x.load(1, 1), -4);
        x = chain();
        check.due("12: slots", x.counts(6), 7);
        check.refused(x, "12: no slot is free", x.load(0, 3), -5);
        x.flush(1);
        check.act(x, "12: the lowest free slot", x.load(0, 3), 1, 0);
        x.flush(2);
        x.flush(0);
        check.refused(x, "12: its parent is not loaded", x.load(0, 1), -4);
        check.refused(x, "12: its parent is not loaded", x.load(0, 2), -4);
        x.load(0, 0);
        x.swapOut(0);
        check.refused(x, "12: it is swapped", x.load(0, 0), -4);
        check.refused(x, "12: its parent is swapped", x.load(0, 1), -4);
        x = chain();
        x.key(2, 600);
        check.refused(x, "12: room is asked for behind what stands", x.load(0, 2), -4);
        check.refused(x, "12: no room below a loaded one", x.load(0, 5), -5);
    }

    /** Promise 13. */
    private static void flush() {
        StartLedger x = chain();
        x.open(1, 1);
        x.open(2, 1);
        x.open(1, 1);
        check.act(x, "13: flush(1)", x.flush(1), 1, 0);
        check.due("13: its sessions are closed", x.counts(10), 2);
        check.due("13: slots", x.counts(6), 5);
        check.due("13: it is not swapped", x.ofKey(1, 2), 0);
        check.refused(x, "13: flush(1)", x.flush(1), -2);
        check.refused(x, "13: flush(3)", x.flush(3), -2);
        check.refused(x, "13: flush(-1)", x.flush(-1), -2);
        check.act(x, "13: flush(2)", x.flush(2), 2, 0);
    }

    /** Promise 14. */
    private static void swapOut() {
        StartLedger x = chain();
        x.open(2, 1);
        x.open(0, 1);
        check.act(x, "14: swapOut(2)", x.swapOut(2), 0, 0);
        check.due("14: its session is closed", x.counts(10), 2);
        check.due("14: it is swapped", x.ofKey(2, 2), 1);
        check.due("14: it has no slot", x.ofKey(2, 1), -1);
        check.due("14: slots", x.counts(6), 3);
        check.due("14: the context's key", x.of(0, 5), 2);
        check.due("14: the context's slot", x.of(0, 6), 2);
        check.refused(x, "14: swapOut(2)", x.swapOut(2), -2);
        check.refused(x, "14: swapOut(3)", x.swapOut(3), -2);
        check.refused(x, "14: swapOut(-1)", x.swapOut(-1), -2);
        for (int i = 1; i < 12; i++) {
            check.due("14: swapOut(0)", x.swapOut(0), i);
            if (i == 6) {
                x.start();
                x.load(0, 0);
            } else {
                x.swapIn(i);
            }
        }
        check.refused(x, "14: the thirteenth, of all starts", x.swapOut(0), -5);
        check.refused(x, "14: -2 comes ahead of -5", x.swapOut(2), -2);
        check.due("14: counts(7)", x.counts(7), 12);
        check.due("14: it is still loaded", x.ofKey(0, 1), 0);
    }

    /** Promise 15. */
    private static void swapIn() {
        StartLedger x = chain();
        check.refused(x, "15: swapIn(0)", x.swapIn(0), -2);
        x.swapOut(1);
        check.refused(x, "15: swapIn(1)", x.swapIn(1), -2);
        check.refused(x, "15: swapIn(-1)", x.swapIn(-1), -2);
        x.flush(0);
        check.act(x, "15: swapIn(0), the parent not loaded", x.swapIn(0), 1, 0);
        check.due("15: it is in the slot in which it was", x.ofKey(1, 1), 1);
        check.due("15: it is not swapped", x.ofKey(1, 2), 0);
        check.refused(x, "15: it is used", x.swapIn(0), -4);
        x.swapOut(1);
        check.refused(x, "15: it is not the latest", x.swapIn(0), -4);
        x.load(0, 3);
        x.load(0, 4);
        check.due("15: slot 1 is another's", x.ofKey(4, 1), 1);
        check.refused(x, "15: the slot is not free", x.swapIn(1), -5);
        check.refused(x, "15: -4 comes ahead of -5", x.swapIn(0), -4);
        x.flush(1);
        x.drop(1);
        check.refused(x, "15: the key is not swapped", x.swapIn(1), -4);
        x.load(0, 4);
        x.swapOut(1);
        x.start();
        check.refused(x, "15: of another start", x.swapIn(2), -4);
        x.load(0, 4);
        x.swapOut(0);
        check.refused(x, "15: of another start, the key swapped", x.swapIn(2), -4);
        check.act(x, "15: of this start", x.swapIn(3), 0, 0);
        x.swapOut(0);
        x.load(0, 3);
        check.refused(x, "15: the lowest free slot is no help", x.swapIn(4), -5);
    }

    /** Promise 16. */
    private static void drop() {
        StartLedger x = chain();
        check.refused(x, "16: drop(0), loaded", x.drop(0), -4);
        check.refused(x, "16: drop(3), neither", x.drop(3), -4);
        check.refused(x, "16: drop(5)", x.drop(5), -2);
        check.refused(x, "16: drop(-1)", x.drop(-1), -2);
        x.swapOut(1);
        check.act(x, "16: drop(1)", x.drop(1), 0, 0);
        check.due("16: it is not swapped", x.ofKey(1, 2), 0);
        check.refused(x, "16: drop(1)", x.drop(1), -4);
        check.act(x, "16: it can be loaded again", x.load(0, 1), 1, 0);
        x.swapOut(0);
        check.act(x, "16: drop(0)", x.drop(0), 0, 0);
        check.due("16: there are as many keys", x.counts(5), 5);
    }

    private static void way(StartLedger x, int seal, int... moves) {
        check.due("41: reach(" + seal + ", NONE)", x.reach(seal, StartLedger.NONE), moves.length);
        for (int i = 0; i < moves.length; i++) check.due("41: move " + i + " to " + seal, x.reach(seal, i), moves[i]);
        check.due("41: reach behind the last", x.reach(seal, moves.length), -1);
        check.due("41: reach(" + seal + ", -2)", x.reach(seal, -2), -1);
    }

    /** Promise 41. */
    private static void reach() {
        StartLedger x = chain();
        x.seal(2, 1, -1);
        check.due("41: no such seal", x.reach(1, -1), -1);
        check.due("41: no such seal", x.reach(-1, -1), -1);
        way(x, 0);
        x.flush(2);
        way(x, 0, 22);
        x.load(0, 3);
        way(x, 0, 10, 22);
        x.flush(1);
        x.load(0, 4);
        way(x, 0, 11, 12, 21, 22);
        x.flush(0);
        way(x, 0, 11, 12, 20, 21, 22);
        x.flush(1);
        way(x, 0, 12, 20, 21, 22);
        x.load(0, 0);
        x.swapOut(0);
        way(x, 0, 12, 40, 21, 22);
        x.load(0, 4);
        way(x, 0, 10, 12, 40, 21, 22);
        x.load(0, 3);
        x.key(0, 1);
        x.load(0, 5);
        way(x, 0, 10, 11, 12, 40, 21, 22);
        x.policy(2, 3, 0);
        x.seal(0, 1, 0);
        way(x, 1, 3);
    }

    private static void reachBeyond() {
        StartLedger x = chain();
        x.policy(2, 2, 0);
        x.policy(5, 0, 0);
        x.policy(4, 0, 1);
        x.seal(2, 1, 0);
        x.seal(2, 2, 1);
        x.seal(2, 3, 2);
        way(x, 0, 2);
        way(x, 1);
        way(x, 2);
        x.tick(1);
        check.due("41: it can't come to hold", x.reach(1, -1), -1);
        check.due("41: no move of it", x.reach(1, 0), -1);
        way(x, 2, 2);
        x.locality(1);
        x.flush(2);
        way(x, 0, 2, 22);
        x.flush(1);
        x.flush(0);
        way(x, 0, 2, 20, 21, 22);
        x.load(0, 3);
        x.load(0, 4);
        way(x, 0, 2, 10, 11, 20, 21, 22);
        x.key(-1, 1);
        x.load(0, 5);
        check.due("41: not by 6", x.reach(0, -1), -1);
        check.due("41: not by 6", x.reach(0, 0), -1);
        x.locality(3);
        way(x, 0, 10, 11, 12, 20, 21, 22);
        check.due("41: it is on paper alone", x.counts(6), 7);
    }

    private static void reachOfSwapped() {
        StartLedger x = chain();
        x.seal(2, 1, -1);
        x.seal(0, 1, -1);
        x.swapOut(2);
        way(x, 0, 40);
        x.load(0, 3);
        way(x, 0, 12, 40);
        x.drop(2);
        way(x, 0, 10, 22);
        x.flush(2);
        x.load(0, 2);
        x.swapOut(2);
        way(x, 0, 41);
        x.start();
        way(x, 0, 20, 21, 22);
        x.load(0, 3);
        x.load(0, 0);
        x.swapOut(1);
        x.load(0, 4);
        way(x, 1, 11, 42);
        way(x, 0, 10, 11, 42, 21, 22);
    }

    private static void reachOfLongChains() {
        StartLedger x = new StartLedger();
        x.key(-1, 0);
        x.load(0, 0);
        x.seal(0, 0, -1);
        for (int k = 1; k < 6; k++) {
            int parent = x.ofKey(k - 1, 1);
            x.key(parent, k);
            if (x.counts(6) == 7) x.flush(x.ofKey(k - 3, 1));
            x.load(0, k);
            x.seal(x.ofKey(k, 1), k, -1);
        }
        x.start();
        way(x, 0, 20);
        way(x, 3, 20, 21, 10, 22, 23);
        check.due("41: five keys and two flushes are too many", x.reach(4, -1), -1);
        check.due("41: six keys are too many", x.reach(5, -1), -1);
        x.load(0, 0);
        way(x, 4, 21, 10, 22, 11, 23, 24);
    }

    /** Promise 45. */
    private static void orphans() {
        StartLedger x = chain();
        check.due("45: none", x.orphans(), 0);
        x.flush(1);
        check.due("45: key 2", x.orphans(), 4);
        x.load(0, 1);
        x.swapOut(0);
        check.due("45: key 1, its parent swapped", x.orphans(), 2);
        x.swapOut(1);
        check.due("45: key 2", x.orphans(), 4);
        x.swapOut(2);
        check.due("45: none is loaded", x.orphans(), 0);
        x.load(0, 3);
        check.due("45: one below none is none", x.orphans(), 0);
        x = chain();
        x.flush(0);
        x.load(0, 3);
        x.flush(2);
        x.key(1, 1);
        x.load(0, 5);
        x.flush(0);
        x.swapOut(1);
        x.load(0, 0);
        x.load(0, 3);
        check.due("45: key 5 in slot 2", x.orphans(), 32);
        x.swapOut(0);
        x.drop(1);
        check.due("45: key 5 in slot 2", x.orphans(), 32);
        x = new StartLedger();
        x.key(-1, 1);
        x.key(-1, 1);
        x.load(0, 1);
        x.load(0, 0);
        x.key(1, 1);
        x.flush(0);
        x.load(0, 2);
        x.flush(1);
        check.due("45: key 2 in slot 0", x.orphans(), 4);
    }

    /** Promise 46. */
    private static void ofKey() {
        StartLedger x = chain();
        x.policy(2, 0, 0);
        x.policy(2, 1, 0);
        x.seal(2, 1, 0);
        x.seal(1, 1, 0);
        x.seal(2, 1, -1);
        x.open(2, 1);
        x.approve(0, 0, x.word(0, 2, 0));
        x.approve(0, 1, x.word(0, 2, 1));
        x.swapOut(2);
        int[] due2 = {1, -1, 1, 2, 2, 5, -1};
        int[] due1 = {0, 1, 0, 0, 1, 2, -1};
        int[] due3 = {-1, -1, 0, 0, 0, 0, -1};
        for (int what = 0; what < 7; what++) {
            check.due("46: ofKey(2, " + what + ")", x.ofKey(2, what), due2[what]);
            check.due("46: ofKey(1, " + what + ")", x.ofKey(1, what), due1[what]);
            check.due("46: ofKey(3, " + what + ")", x.ofKey(3, what), due3[what]);
            check.due("46: ofKey(5, " + what + ")", x.ofKey(5, what), -1);
            check.due("46: ofKey(-1, " + what + ")", x.ofKey(-1, what), -1);
        }
        check.due("46: ofKey(0, -1)", x.ofKey(0, -1), -1);
    }

    /** Promise 47. */
    private static void of() {
        StartLedger x = chain();
        x.policy(2, 3, 7);
        x.policy(5, 7, 10);
        x.policy(7, 6, 9);
        x.seal(2, 1, 2);
        x.seal(1, 1, -1);
        x.open(2, 1);
        x.open(1, 1);
        int[] ofTwo = {-1, -1, -1, 7, 6, -1, -1, -1, -1};
        for (int what = 0; what < 9; what++) check.due("47: of(2, " + what + ")", x.of(2, what), ofTwo[what]);
        int[] ofOne = {1, 1, -1, 5, 0, -1, -1, -1, -1};
        for (int what = 0; what < 9; what++) check.due("47: of(1, " + what + ")", x.of(1, what), ofOne[what]);
        x.swapOut(0);
        x.swapOut(2);
        int[] ofNought = {-1, 2, 2, 2, 3, 0, 0, 1, -1};
        for (int what = 0; what < 9; what++) check.due("47: of(0, " + what + ")", x.of(0, what), ofNought[what]);
        check.due("47: of(1, 6)", x.of(1, 6), 2);
        x.load(0, 3);
        check.due("47: but for the slot", x.of(0, 7), 1);
        x.flush(0);
        x.swapIn(0);
        check.due("47: used", x.of(0, 7), 0);
        x.drop(2);
        check.due("47: dropped", x.of(1, 7), 0);
        x.swapOut(0);
        check.due("47: not the latest", x.of(0, 7), 0);
        check.due("47: the latest", x.of(2, 7), 1);
        x.start();
        check.due("47: of another start", x.of(2, 7), 0);
        for (int what = -1; what < 9; what++) {
            check.due("47: of(-1, " + what + ")", x.of(-1, what), -1);
            check.due("47: of(24, " + what + ")", x.of(24, what), -1);
        }
    }

    public static void main(String[] args) {
        key();
        load();
        flush();
        swapOut();
        swapIn();
        drop();
        reach();
        reachBeyond();
        reachOfSwapped();
        reachOfLongChains();
        orphans();
        ofKey();
        of();
        check.end("KeysTest");
    }
}
