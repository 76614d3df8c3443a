/**
 * Each sentence of Terms II on keys, of TO REACH in Terms III, and of promises 11 to 16, 41, 45 to 47 that names an
 * edge, by a test of its own: the sentence stands above it.
 */
public final class KeyEdgesTest {
    private static final Edge edge = new Edge();
    private static final int NONE = StartLedger.NONE;

    /** Keys below none, the first of them loaded in slots 0 .. */
    private static StartLedger flat(int keys, int loaded) {
        StartLedger x = new StartLedger();
        for (int k = 0; k < keys; k++) x.key(NONE, 100 + k);
        for (int k = 0; k < loaded; k++) x.load(0, k);
        return x;
    }

    /** Keys below one another, a seal below each; none is loaded. */
    private static StartLedger chain(int keys) {
        StartLedger x = new StartLedger();
        int slot = NONE;
        for (int k = 0; k < keys; k++) {
            x.key(slot, 100 + k);
            if (x.counts(6) == 7) x.flush(x.ofKey(k - 3, 1));
            slot = x.load(0, k);
            x.seal(slot, k, NONE);
        }
        x.start();
        return x;
    }

    private static String keyState(StartLedger x, int key) {
        return x.ofKey(key, 1) + " " + x.ofKey(key, 2);
    }

    // ---- keys, promise 11

    /** "KEYS 0 .. 9, as they come"; promise 11: "its number. .. -5." */
    private static void tenKeys() {
        StartLedger x = new StartLedger();
        for (int k = 0; k < 10; k++) {
            int number = k;
            edge.taken(x, "key() " + k, number, () -> x.key(NONE, number));
            edge.due("KEYS", x.counts(5), k + 1);
        }
        edge.refused(x, "the eleventh", -5, () -> x.key(NONE, 1));
        x.load(0, 3);
        edge.refused(x, "the eleventh, below another", -5, () -> x.key(0, 1));
        edge.refused(x, "-2 ahead of -5", -2, () -> x.key(1, 1));
        x.start();
        edge.refused(x, "a START does not make room", -5, () -> x.key(NONE, 1));
    }

    /** Promise 11: "below a LOADED one in a SLOT (NONE: below none) .. -2". */
    private static void keyBelowEachSlot() {
        StartLedger x = flat(3, 3);
        for (int slot = 0; slot < 3; slot++) {
            int s = slot;
            edge.taken(x, "key(" + slot + ")", 3 + slot, () -> x.key(s, 7));
            edge.due("its PARENT", x.ofKey(3 + slot, 0), slot);
        }
        edge.taken(x, "key(NONE)", 6, () -> x.key(NONE, 7));
        edge.due("its PARENT", x.ofKey(6, 0), NONE);
        for (int slot : Edge.outsideButNone(2)) edge.refused(x, "key(" + slot + ")", -2, () -> x.key(slot, 7));
        x.flush(0);
        x.swapOut(1);
        edge.refused(x, "key(0), the SLOT emptied", -2, () -> x.key(0, 7));
        edge.refused(x, "key(1), the KEY SWAPPED", -2, () -> x.key(1, 7));
    }

    /** A new KEY is neither LOADED nor SWAPPED, and any int is a SECRET. */
    private static void aNewKey() {
        int[] secrets = {0, -1, Integer.MIN_VALUE, Integer.MAX_VALUE};
        for (int secret : secrets) {
            StartLedger x = new StartLedger();
            edge.taken(x, "key(NONE, " + secret + ")", 0, () -> x.key(NONE, secret));
            edge.truth("it is neither", keyState(x, 0).equals("-1 0"));
            x.load(0, 0);
            edge.due("its SECRET", x.quote(0, 0, 5), Check.mix(Check.hash(17, 5, 1, 0), secret));
        }
    }

    // ---- loading, promises 12, 13

    /** "it comes into the lowest free SLOT": of each set of SLOTS that are free. */
    private static void theLowestFreeSlot() {
        for (int held = 0; held < 7; held++) {
            StartLedger x = flat(4, 3);
            for (int slot = 0; slot < 3; slot++) if ((held >> slot & 1) == 0) x.flush(slot);
            edge.due("SLOTS with KEYS", x.counts(6), held);
            int lowest = Integer.numberOfTrailingZeros(~held);
            edge.taken(x, "load(0, 3)", lowest, () -> x.load(0, 3));
            edge.due("its SLOT", x.ofKey(3, 1), lowest);
            edge.due("SLOTS with KEYS", x.counts(6), held | 1 << lowest);
        }
    }

    /** Promise 12: "-5", no SLOT is free. */
    private static void noFreeSlot() {
        StartLedger x = flat(4, 3);
        edge.refused(x, "load(0, 3)", -5, () -> x.load(0, 3));
        x.swapOut(1);
        edge.taken(x, "SWAPPED OUT its SLOT is free", 1, () -> x.load(0, 3));
        edge.refused(x, "load(0, 0): -4 ahead of -5", -4, () -> x.load(0, 0));
        edge.refused(x, "load(0, 1), SWAPPED: -4 ahead of -5", -4, () -> x.load(0, 1));
        edge.refused(x, "load(0, 4): -2 ahead of -5", -2, () -> x.load(0, 4));
        edge.refused(x, "load(2, 3): -1 ahead of -5", -1, () -> x.load(2, 3));
        StartLedger y = chain(3);
        for (int i = 0; i < 3; i++) y.key(NONE, 1);
        for (int k = 3; k < 6; k++) y.load(0, k);
        edge.refused(y, "load(0, 1), its PARENT not LOADED: -4 ahead of -5", -4, () -> y.load(0, 1));
        edge.refused(y, "load(0, 0), its PARENT none", -5, () -> y.load(0, 0));
    }

    /** Promise 12: "a KEY (what 0) .. -1; -2; -4 (a SEAL (what 1) can't be". */
    private static void loadOfOthers() {
        StartLedger x = flat(2, 1);
        x.seal(0, 5, NONE);
        for (int what : Edge.outside(0, 1)) {
            edge.refused(x, "load(" + what + ", 1)", -1, () -> x.load(what, 1));
            edge.refused(x, "load(" + what + ", 99): -1 ahead of -2", -1, () -> x.load(what, 99));
        }
        for (int k : Edge.outside(0, 1)) edge.refused(x, "load(0, " + k + ")", -2, () -> x.load(0, k));
        for (int seal : Edge.outside(0, 0)) edge.refused(x, "load(1, " + seal + ")", -2, () -> x.load(1, seal));
        edge.refused(x, "load(1, 0): there is such a SEAL", -4, () -> x.load(1, 0));
        edge.refused(x, "load(1, 1): a KEY, but no such SEAL", -2, () -> x.load(1, 1));
    }

    /** "its PARENT (if it has one) must be LOADED, it itself neither LOADED nor SWAPPED". */
    private static void loadByWhatStands() {
        StartLedger x = chain(3);
        edge.refused(x, "load(0, 2), nothing LOADED", -4, () -> x.load(0, 2));
        edge.refused(x, "load(0, 1), nothing LOADED", -4, () -> x.load(0, 1));
        edge.taken(x, "load(0, 0), below none", 0, () -> x.load(0, 0));
        edge.refused(x, "load(0, 0), LOADED", -4, () -> x.load(0, 0));
        edge.refused(x, "load(0, 2), but its PARENT's PARENT LOADED", -4, () -> x.load(0, 2));
        edge.taken(x, "load(0, 1)", 1, () -> x.load(0, 1));
        x.flush(0);
        edge.taken(x, "load(0, 2), its PARENT's PARENT not LOADED", 0, () -> x.load(0, 2));
        x.swapOut(0);
        edge.refused(x, "load(0, 2), SWAPPED", -4, () -> x.load(0, 2));
        x.drop(2);
        x.swapOut(1);
        edge.refused(x, "load(0, 2), its PARENT SWAPPED", -4, () -> x.load(0, 2));
        x.swapIn(1);
        edge.taken(x, "load(0, 2), its PARENT SWAPPED IN", 0, () -> x.load(0, 2));
        x.flush(1);
        edge.refused(x, "load(0, 1), its PARENT flushed", -4, () -> x.load(0, 1));
    }

    /** Promise 13: "The KEY in a SLOT is no longer LOADED: which it was. -2." */
    private static void flushOfEach() {
        StartLedger x = flat(5, 3);
        x.flush(1);
        x.load(0, 4);
        edge.taken(x, "flush(1)", 4, () -> x.flush(1));
        edge.refused(x, "flush(1), emptied", -2, () -> x.flush(1));
        edge.taken(x, "flush(0)", 0, () -> x.flush(0));
        edge.taken(x, "flush(2)", 2, () -> x.flush(2));
        edge.due("SLOTS with KEYS", x.counts(6), 0);
        for (int slot = 0; slot < 3; slot++) {
            int s = slot;
            edge.refused(x, "flush(" + slot + ") of none", -2, () -> x.flush(s));
        }
        for (int slot : Edge.outside(0, 2)) edge.refused(x, "flush(" + slot + ")", -2, () -> x.flush(slot));
        edge.truth("it is neither", keyState(x, 0).equals("-1 0"));
        x.load(0, 0);
        x.swapOut(0);
        edge.refused(x, "flush(0), SWAPPED OUT", -2, () -> x.flush(0));
    }

    /** A KEY stays LOADED when its PARENT is LOADED no longer. */
    private static void childrenStay() {
        StartLedger x = chain(3);
        for (int k = 0; k < 3; k++) x.load(0, k);
        x.flush(0);
        edge.due("KEY 1 is an orphan", x.orphans(), 2);
        x.swapOut(1);
        edge.due("KEY 2 is one, too", x.orphans(), 4);
        edge.due("its SLOT", x.ofKey(2, 1), 2);
    }

    // ---- swapping, promises 14 to 16

    /** "there is a CONTEXT (0 .. 11, as they come ..)"; promise 14: "-5 (12 there are, of all STARTS)". */
    private static void twelveContexts() {
        StartLedger x = flat(2, 2);
        for (int c = 0; c < 12; c++) {
            int context = c;
            edge.taken(x, "swapOut(1)", context, () -> x.swapOut(1));
            edge.due("CONTEXTS", x.counts(7), c + 1);
            if (c % 3 == 0) edge.taken(x, "swapIn(" + c + ")", 1, () -> x.swapIn(context));
            else if (c % 3 == 1) x.drop(1);
            else x.start();
            if (c % 3 == 2) x.load(0, 0);
            if (c % 3 != 0) x.load(0, 1);
        }
        x.open(1, 5);
        edge.refused(x, "the thirteenth: KEY and SESSION stay", -5, () -> x.swapOut(1));
        edge.refused(x, "swapOut(2): -2 ahead of -5", -2, () -> x.swapOut(2));
        x.start();
        x.load(0, 0);
        edge.refused(x, "a START does not make room", -5, () -> x.swapOut(0));
    }

    /** "SWAPPED OUT: its SLOT is free then, and there is a CONTEXT (.. of that KEY, of that SLOT)"; promise 14: "-2". */
    private static void swapOutOfEach() {
        for (int slot = 0; slot < 3; slot++) {
            StartLedger x = flat(3, 3);
            int s = slot;
            edge.taken(x, "swapOut(" + slot + ")", 0, () -> x.swapOut(s));
            edge.truth("it is SWAPPED", keyState(x, slot).equals("-1 1"));
            edge.due("SLOTS with KEYS", x.counts(6), 7 & ~(1 << slot));
            edge.due("the CONTEXT's KEY", x.of(0, 5), slot);
            edge.due("the CONTEXT's SLOT", x.of(0, 6), slot);
            edge.refused(x, "swapOut(" + slot + ") of none", -2, () -> x.swapOut(s));
            for (int o : Edge.outside(0, 2)) edge.refused(x, "swapOut(" + o + ")", -2, () -> x.swapOut(o));
            edge.taken(x, "swapIn(0)", s, () -> x.swapIn(0));
            edge.truth("it is LOADED", keyState(x, slot).equals(slot + " 0"));
        }
    }

    /** "it is in the SLOT in which it was": not the lowest free one, and another one each time. */
    private static void theSlotInWhichItWas() {
        StartLedger x = flat(1, 0);
        for (int k = 1; k < 3; k++) x.key(NONE, k);
        for (int slot = 2; slot >= 0; slot--) {
            for (int k = 1; k <= slot; k++) x.load(0, k);
            x.load(0, 0);
            for (int other = 0; other < slot; other++) x.flush(other);
            int s = slot;
            int context = x.swapOut(slot);
            edge.due("the CONTEXT's SLOT", x.of(context, 6), slot);
            edge.taken(x, "swapIn(), all SLOTS free", s, () -> x.swapIn(context));
            x.flush(slot);
        }
    }

    /** Promise 15: "-2". */
    private static void noSuchContext() {
        StartLedger x = flat(1, 1);
        for (int c : Edge.outside(0, -1)) edge.refused(x, "swapIn(" + c + ") of none", -2, () -> x.swapIn(c));
        x.swapOut(0);
        for (int c : Edge.outside(0, 0)) edge.refused(x, "swapIn(" + c + ") of one", -2, () -> x.swapIn(c));
        edge.taken(x, "swapIn(0)", 0, () -> x.swapIn(0));
        x.undo();
        x.undo();
        edge.refused(x, "swapIn(0), swapOut() undone", -2, () -> x.swapIn(0));
    }

    /** "SWAPPED IN by a CONTEXT: of this START"; promise 15: "-4 (of another START". */
    private static void contextOfAnotherStart() {
        StartLedger x = flat(2, 1);
        x.swapOut(0);
        x.start();
        edge.refused(x, "swapIn(0) behind a START", -4, () -> x.swapIn(0));
        edge.due("of(0, 7)", x.of(0, 7), 0);
        x.load(0, 0);
        edge.refused(x, "swapIn(0), the KEY LOADED", -4, () -> x.swapIn(0));
        x.swapOut(0);
        edge.refused(x, "swapIn(0), the KEY SWAPPED in this START", -4, () -> x.swapIn(0));
        edge.taken(x, "swapIn(1), of this START", 0, () -> x.swapIn(1));
        x.swapOut(0);
        x.start();
        x.undo();
        edge.taken(x, "swapIn(2), the START undone", 0, () -> x.swapIn(2));
    }

    /** "not used before"; promise 15: "used". */
    private static void contextUsed() {
        StartLedger x = flat(2, 1);
        x.swapOut(0);
        x.swapIn(0);
        edge.refused(x, "swapIn(0), used", -4, () -> x.swapIn(0));
        x.flush(0);
        edge.refused(x, "swapIn(0), used, the KEY flushed", -4, () -> x.swapIn(0));
        x.load(0, 0);
        x.swapOut(0);
        edge.refused(x, "swapIn(0), used, the KEY SWAPPED anew", -4, () -> x.swapIn(0));
        x.swapIn(1);
        x.undo();
        edge.taken(x, "swapIn(1), its use undone", 0, () -> x.swapIn(1));
    }

    /** "the KEY's latest one"; promise 15: "not the latest". */
    private static void contextNotTheLatest() {
        StartLedger x = flat(2, 2);
        x.swapOut(0);
        x.drop(0);
        x.load(0, 0);
        x.swapOut(0);
        edge.refused(x, "swapIn(0), not used, of this START, the KEY SWAPPED", -4, () -> x.swapIn(0));
        edge.due("of(0, 7)", x.of(0, 7), 0);
        edge.due("of(1, 7)", x.of(1, 7), 1);
        x.swapOut(1);
        edge.taken(x, "swapIn(1): another KEY's is later", 0, () -> x.swapIn(1));
    }

    /** "the KEY SWAPPED"; promise 15: "its KEY not SWAPPED". */
    private static void contextOfAKeyNotSwapped() {
        StartLedger x = flat(2, 1);
        x.swapOut(0);
        x.drop(0);
        edge.refused(x, "swapIn(0), the KEY dropped", -4, () -> x.swapIn(0));
        x.load(0, 1);
        edge.refused(x, "swapIn(0), the SLOT not free: -4 ahead of -5", -4, () -> x.swapIn(0));
        x.load(0, 0);
        edge.refused(x, "swapIn(0), the KEY LOADED in another SLOT", -4, () -> x.swapIn(0));
    }

    /** "which must be free"; promise 15: "-5 (the SLOT is not free)". */
    private static void contextWithoutItsSlot() {
        for (int slot = 0; slot < 3; slot++) {
            StartLedger x = flat(5, 3);
            x.swapOut(slot);
            x.load(0, 3);
            x.flush((slot + 1) % 3);
            edge.refused(x, "swapIn(0), though another SLOT is free", -5, () -> x.swapIn(0));
            edge.due("of(0, 7), but for the SLOT", x.of(0, 7), 1);
            x.flush(slot);
            int s = slot;
            edge.taken(x, "swapIn(0), free again", s, () -> x.swapIn(0));
        }
    }

    /** SWAPPED IN a KEY needs no PARENT, and its SESSIONS do not come back. */
    private static void swappedInWithoutAParent() {
        StartLedger x = chain(2);
        x.load(0, 0);
        x.load(0, 1);
        x.open(1, 5);
        x.swapOut(1);
        x.flush(0);
        edge.taken(x, "swapIn(0)", 1, () -> x.swapIn(0));
        edge.due("it is an orphan", x.orphans(), 2);
        edge.due("SESSIONS", x.counts(10), 0);
    }

    /** "A KEY that is SWAPPED can be dropped .. it is neither then"; promise 16: "-2; -4 (it is not SWAPPED)". */
    private static void dropOfEach() {
        StartLedger x = flat(3, 2);
        x.swapOut(1);
        edge.refused(x, "drop(0), LOADED", -4, () -> x.drop(0));
        edge.refused(x, "drop(2), neither", -4, () -> x.drop(2));
        for (int k : Edge.outside(0, 2)) edge.refused(x, "drop(" + k + ")", -2, () -> x.drop(k));
        edge.taken(x, "drop(1)", 0, () -> x.drop(1));
        edge.truth("it is neither", keyState(x, 1).equals("-1 0"));
        edge.refused(x, "drop(1) once more", -4, () -> x.drop(1));
        edge.taken(x, "load(0, 1)", 1, () -> x.load(0, 1));
        x.swapOut(1);
        x.swapIn(1);
        edge.refused(x, "drop(1), SWAPPED IN", -4, () -> x.drop(1));
        x.swapOut(1);
        x.start();
        edge.refused(x, "drop(1) behind a START", -4, () -> x.drop(1));
    }

    // ---- reach, promise 41

    private static void way(StartLedger x, int seal, int... moves) {
        edge.due("reach(" + seal + ", NONE)", x.reach(seal, NONE), moves.length);
        for (int i = 0; i < moves.length; i++) edge.due("MOVE " + i + " to " + seal, x.reach(seal, i), moves[i]);
        for (int i : Edge.outsideButNone(moves.length - 1)) {
            edge.due("reach(" + seal + ", " + i + ")", x.reach(seal, i), NONE);
        }
    }

    private static void noWay(StartLedger x, int seal) {
        edge.due("reach(" + seal + ", NONE)", x.reach(seal, NONE), NONE);
        for (int i = 0; i < 7; i++) edge.due("reach(" + seal + ", " + i + ")", x.reach(seal, i), NONE);
    }

    /** Promise 41: "NONE (.. no such SEAL ..)", and no MOVES where it could be unsealed as it is. */
    private static void reachOfNoSuchSeal() {
        StartLedger x = flat(1, 1);
        for (int seal : Edge.outside(0, -1)) noWay(x, seal);
        x.seal(0, 5, NONE);
        for (int seal : Edge.outside(0, 0)) noWay(x, seal);
        way(x, 0);
        edge.due("reach(0, 0): no such MOVE", x.reach(0, 0), NONE);
    }

    /** "the fewest MOVES, 6 at most": keys below one another, and the slots that must be emptied. */
    private static void reachBySixAtMost() {
        StartLedger x = chain(6);
        way(x, 0, 20);
        way(x, 1, 20, 21);
        way(x, 2, 20, 21, 22);
        way(x, 3, 20, 21, 10, 22, 23);
        noWay(x, 4);
        noWay(x, 5);
        x.load(0, 0);
        way(x, 4, 21, 10, 22, 11, 23, 24);
        noWay(x, 5);
        x.load(0, 1);
        x.flush(0);
        way(x, 5, 22, 11, 23, 10, 24, 25);
        way(x, 0, 20);
    }

    /** "6 at most": a seventh for the LOCALITY is one too many. */
    private static void reachBySixWithLocality() {
        StartLedger x = chain(3);
        for (int i = 0; i < 3; i++) x.key(NONE, 1);
        for (int k = 3; k < 6; k++) x.load(0, k);
        way(x, 2, 10, 11, 12, 20, 21, 22);
        StartLedger y = new StartLedger();
        y.policy(2, 1, 0);
        int slot = NONE;
        for (int k = 0; k < 3; k++) {
            y.key(slot, 1);
            slot = y.load(0, k);
        }
        y.seal(slot, 1, 0);
        for (int i = 0; i < 3; i++) y.key(NONE, 1);
        y.start();
        y.load(0, 3);
        y.load(0, 4);
        way(y, 0, 1, 10, 11, 20, 21, 22);
        y.load(0, 5);
        noWay(y, 0);
        y.locality(1);
        way(y, 0, 10, 11, 12, 20, 21, 22);
    }

    /** "n 0 .. 3: the LOCALITY becomes another one": the least that will do, ahead of all others. */
    private static void reachByLocality() {
        for (int asked = 0; asked < 4; asked++) {
            for (int n = 0; n < 4; n++) {
                StartLedger x = flat(2, 1);
                x.policy(2, asked, 0);
                x.seal(0, 5, 0);
                x.locality(n);
                if (n >= asked) way(x, 0);
                else way(x, 0, asked);
                x.flush(0);
                if (n >= asked) way(x, 0, 20);
                else way(x, 0, asked, 20);
                edge.due("it is on paper", x.counts(0), n);
            }
        }
    }

    /** "behind which .. its POLICY, if any, holds": not by any MOVE. */
    private static void reachOfWhatIsLost() {
        StartLedger x = flat(1, 1);
        x.policy(5, 0, 3);
        x.policy(2, 2, 0);
        x.policy(3, 0, 1);
        x.policy(4, 0, 1);
        for (int p = 0; p < 4; p++) x.seal(0, p, p);
        x.tick(3);
        way(x, 0);
        way(x, 1, 2);
        way(x, 2, 2);
        way(x, 3);
        x.tick(1);
        noWay(x, 0);
        way(x, 1, 2);
        noWay(x, 2);
        way(x, 3, 2);
    }

    /** "10 and a SLOT: the KEY in it is LOADED no longer": the lowest that will do, not the PARENT. */
    private static void reachByEmptying() {
        for (int parentSlot = 0; parentSlot < 3; parentSlot++) {
            StartLedger x = chain(2);
            for (int i = 0; i < 2; i++) x.key(NONE, 1);
            int other = 2;
            for (int slot = 0; slot < 3; slot++) x.load(0, slot == parentSlot ? 0 : other++);
            edge.due("SLOTS with KEYS", x.counts(6), 7);
            way(x, 1, parentSlot == 0 ? 11 : 10, 21);
        }
    }

    /** "20 and a KEY: it is LOADED", up to 29; "40 and a CONTEXT", up to 51. */
    private static void reachOfTheLastOnes() {
        StartLedger x = flat(10, 0);
        x.load(0, 9);
        x.seal(0, 1, NONE);
        for (int c = 0; c < 12; c++) {
            x.swapOut(0);
            way(x, 0, 40 + c);
            if (c < 11) x.swapIn(c);
        }
        x.drop(9);
        way(x, 0, 29);
    }

    /** "40 and a CONTEXT: its KEY is SWAPPED IN", its SLOT emptied first, whoever is in it. */
    private static void reachBySwappingIn() {
        for (int slot = 0; slot < 3; slot++) {
            StartLedger x = flat(5, 3);
            x.seal(slot, 5, NONE);
            x.swapOut(slot);
            way(x, 0, 40);
            x.load(0, 3);
            way(x, 0, 10 + slot, 40);
            x.start();
            way(x, 0, 20 + slot);
        }
        StartLedger x = chain(3);
        x.load(0, 0);
        x.load(0, 1);
        x.load(0, 2);
        x.swapOut(1);
        x.flush(2);
        way(x, 2, 40, 22);
        x.flush(0);
        way(x, 2, 40, 22);
        x.drop(1);
        way(x, 2, 20, 21, 22);
        edge.due("it is on paper", x.counts(6), 0);
    }

    // ---- promises 45 to 47

    /** Promise 45: "KEYS that are LOADED while their PARENT is not, as bits." */
    private static void orphansOfEach() {
        StartLedger x = flat(9, 1);
        edge.due("below none it is no orphan", x.orphans(), 0);
        x.key(0, 1);
        edge.due("not LOADED it is none", x.orphans(), 0);
        x.load(0, 9);
        edge.due("its PARENT is LOADED", x.orphans(), 0);
        x.swapOut(0);
        edge.due("its PARENT is SWAPPED", x.orphans(), 512);
        x.swapIn(0);
        edge.due("its PARENT is back", x.orphans(), 0);
        x.flush(0);
        edge.due("its PARENT is flushed", x.orphans(), 512);
        x.swapOut(1);
        edge.due("SWAPPED it is none", x.orphans(), 0);
        x.start();
        edge.due("behind a START", x.orphans(), 0);
    }

    /** Promise 46: "how many KEYS are above it (4)", of ten below one another. */
    private static void keysAbove() {
        StartLedger x = chain(10);
        for (int k = 0; k < 10; k++) {
            edge.due("ofKey(" + k + ", 0)", x.ofKey(k, 0), k - 1);
            edge.due("ofKey(" + k + ", 4)", x.ofKey(k, 4), k);
            edge.due("ofKey(" + k + ", 5)", x.ofKey(k, 5), 1 << k);
        }
    }

    /** Promise 46: "SEALS below it, as bits (5)": all ten of one KEY. */
    private static void tenSealsBelow() {
        StartLedger x = flat(2, 2);
        for (int i = 0; i < 10; i++) {
            edge.due("ofKey(1, 5)", x.ofKey(1, 5), (1 << i) - 1);
            edge.due("ofKey(0, 5)", x.ofKey(0, 5), 0);
            x.seal(1, i, NONE);
        }
        edge.due("ofKey(1, 5)", x.ofKey(1, 5), 1023);
        edge.due("ofKey(0, 5)", x.ofKey(0, 5), 0);
        x.flush(1);
        edge.due("LOADED or not", x.ofKey(1, 5), 1023);
    }

    /** Promise 46: "NONE for others." */
    private static void othersOfOfKey() {
        StartLedger x = flat(3, 3);
        for (int what = 0; what < 6; what++) {
            for (int k : Edge.outside(0, 2)) edge.due("ofKey(" + k + ", ..)", x.ofKey(k, what), NONE);
        }
        for (int what : Edge.outside(0, 5)) edge.due("ofKey(0, " + what + ")", x.ofKey(0, what), NONE);
    }

    /** Promise 47: "NONE for others", of each of the four rows by its own end. */
    private static void othersOfOf() {
        StartLedger x = flat(3, 3);
        for (int p = 0; p < 5; p++) x.policy(2, 1, 0);
        for (int i = 0; i < 2; i++) x.seal(1, 5, 1);
        for (int i = 0; i < 4; i++) x.open(2, 5);
        x.close(3);
        x.swapOut(0);
        int[] last = {2, 1, 1, 4, 4, 0, 0, 0};
        int[] due = {2, 1, 1, 2, 1, 0, 0, 1};
        for (int what = 0; what < 8; what++) {
            edge.due("of(0, " + what + ")", x.of(0, what), due[what]);
            edge.due("of(last, " + what + ")", x.of(last[what], what), due[what]);
            for (int n : Edge.outside(0, last[what])) edge.due("of(" + n + ", " + what + ")", x.of(n, what), NONE);
        }
        for (int what : Edge.outside(0, 7)) edge.due("of(0, " + what + ")", x.of(0, what), NONE);
    }

    private static void keys() {
        tenKeys();
        keyBelowEachSlot();
        aNewKey();
        theLowestFreeSlot();
        noFreeSlot();
        loadOfOthers();
        loadByWhatStands();
        flushOfEach();
        childrenStay();
    }

    private static void swapping() {
        twelveContexts();
        swapOutOfEach();
        theSlotInWhichItWas();
        noSuchContext();
        contextOfAnotherStart();
        contextUsed();
        contextNotTheLatest();
        contextOfAKeyNotSwapped();
        contextWithoutItsSlot();
        swappedInWithoutAParent();
        dropOfEach();
    }

    private static void questions() {
        reachOfNoSuchSeal();
        reachBySixAtMost();
        reachBySixWithLocality();
        reachByLocality();
        reachOfWhatIsLost();
        reachByEmptying();
        reachOfTheLastOnes();
        reachBySwappingIn();
        orphansOfEach();
        keysAbove();
        tenSealsBelow();
        othersOfOfKey();
        othersOfOf();
    }

    public static void main(String[] args) {
        keys();
        swapping();
        questions();
        edge.end("KeyEdgesTest");
    }
}
