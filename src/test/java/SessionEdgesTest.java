import java.util.Arrays;

/**
 * Each sentence of Terms III on sessions, counters and quotes and of promises 20 to 25, 35 to 37, 43, 44, 51 that
 * names an edge, by a test of its own: the sentence stands above it.
 */
public final class SessionEdgesTest {
    private static final Edge edge = new Edge();
    private static final int NONE = StartLedger.NONE;
    private static final int LEAST = Integer.MIN_VALUE;
    private static final int MOST = Integer.MAX_VALUE;
    private static final int SECRET = 100;

    /** A session's nonce and audit, as the document has them go on. */
    private static final class Heard {
        private int nonce;
        private int secret;
        private int audit;

        Heard(int told, int openedAhead, int secret) {
            nonce = Check.hash(told, openedAhead, secret);
            this.secret = secret;
        }

        int word(int call, int number) {
            return Check.mix(Check.mix(Check.hash(call, number), nonce), secret);
        }

        void go(int call, int number, int word, int by) {
            nonce = Check.mix(nonce, word);
            audit = Check.mix(audit, Check.hash(call, number, by));
            if (call == 4 && by == 0) secret = number;
        }

        Heard copy() {
            Heard copy = new Heard(0, 0, secret);
            copy.nonce = nonce;
            copy.audit = audit;
            return copy;
        }
    }

    /** Keys 0, 1, 2 (secrets 100, 101, 102) in slots 0, 1, 2; session 0 on key 0 by 55. */
    private static StartLedger withSession() {
        StartLedger x = new StartLedger();
        for (int k = 0; k < 3; k++) x.key(NONE, SECRET + k);
        for (int k = 0; k < 3; k++) x.load(0, k);
        x.open(0, 55);
        return x;
    }

    private static Heard first() {
        return new Heard(55, 0, SECRET);
    }

    private static int say(StartLedger x, int session, int call, int number, int word) {
        switch (call) {
            case 1: return x.unseal(session, number, word);
            case 2: return x.approve(session, number, word);
            case 3: return x.count(session, number, word);
            default: return x.renew(session, number, word);
        }
    }

    private static void heard(StartLedger x, String label, Heard h) {
        for (int call = 1; call <= 4; call++) edge.due(label + ": word()", x.word(0, call, 7), h.word(call, 7));
        edge.due(label + ": audit()", x.audit(0), h.audit);
    }

    /** By session 0, not refused: the answer, and the nonce and the audit go on. */
    private static void taken(StartLedger x, Heard h, int call, int number, int want) {
        int word = h.word(call, number);
        edge.taken(x, "call " + call + " of " + number, want, () -> say(x, 0, call, number, word));
        h.go(call, number, word, 0);
        heard(x, "call " + call + " of " + number, h);
    }

    /** By session 0, refused by -3 to -7: nonce and audit go on, a wrong word strains, all else is as it was; undone. */
    private static void refused(StartLedger x, Heard h, int by, int call, int number, int word) {
        String label = "call " + call + " of " + number + " by " + by;
        String before = Seen.of(x);
        String rest = Seen.but(x, 0);
        float strain = Float.intBitsToFloat(x.fresh(0, 1));
        int[] told = Edge.told(x);
        told[-1 - by]++;
        int undos = x.counts(17);
        edge.due(label, say(x, 0, call, number, word), call == 1 ? 0 : by);
        edge.due(label + ": status()", x.status(), by);
        edge.truth(label + ": one refusal more", Arrays.equals(told, Edge.told(x)));
        edge.truth(label + ": all else is as it was", Seen.but(x, 0).equals(rest));
        edge.due(label + ": STRAIN", x.fresh(0, 1), Float.floatToIntBits(by == -6 ? strain + 1f : strain));
        edge.due(label + ": it can be undone", x.counts(17), Math.min(8, undos + 1));
        Heard then = h.copy();
        then.go(call, number, word, by);
        heard(x, label, then);
        edge.due(label + ": undo()", x.undo(), 18 + call);
        edge.truth(label + ": undone", Seen.of(x).equals(before));
    }

    // ---- sessions, promises 20, 21

    /** "SESSIONS 0 .. 3"; promise 20: "its number, the lowest that is not open. .. -5." */
    private static void theLowestThatIsNotOpen() {
        for (int open = 0; open < 15; open++) {
            StartLedger x = withSession();
            for (int i = 1; i < 4; i++) x.open(i - 1, i);
            edge.refused(x, "the fifth", -5, () -> x.open(0, 1));
            for (int s = 0; s < 4; s++) if ((open >> s & 1) == 0) x.close(s);
            edge.due("SESSIONS", x.counts(10), open);
            int lowest = Integer.numberOfTrailingZeros(~open);
            edge.taken(x, "open(2)", lowest, () -> x.open(2, 9));
            edge.due("SESSIONS", x.counts(10), open | 1 << lowest);
            edge.due("its KEY", x.of(lowest, 0), 2);
            edge.due("how many were opened", x.counts(11), 5);
        }
    }

    /** Promise 20: "-2". */
    private static void openOfNoKey() {
        StartLedger x = withSession();
        for (int slot : Edge.outside(0, 2)) edge.refused(x, "open(" + slot + ")", -2, () -> x.open(slot, 1));
        x.flush(1);
        edge.refused(x, "open(1), flushed", -2, () -> x.open(1, 1));
        x.swapOut(2);
        edge.refused(x, "open(2), SWAPPED", -2, () -> x.open(2, 1));
        for (int i = 0; i < 3; i++) x.open(0, i);
        edge.refused(x, "open(1): -2 ahead of -5", -2, () -> x.open(1, 1));
        edge.refused(x, "open(0)", -5, () -> x.open(0, 1));
    }

    /** "NONCE is HASH of that number, how many SESSIONS were opened ahead, and the KEY's SECRET." */
    private static void nonceOfEach() {
        StartLedger x = withSession();
        int[] told = {0, -1, LEAST, MOST, 55};
        x.open(9, 9);
        for (int i = 0; i < told.length; i++) {
            x.open(i % 3, told[i]);
            Heard h = new Heard(told[i], i + 1, SECRET + i % 3);
            edge.due("word(1, 1, 3)", x.word(1, 1, 3), h.word(1, 3));
            edge.due("audit(1)", x.audit(1), 0);
            x.close(1);
        }
        x.start();
        x.load(0, 2);
        x.open(0, 55);
        edge.due("opened ahead in another START", x.word(0, 1, 3), new Heard(55, 6, SECRET + 2).word(1, 3));
        x.undo();
        x.open(0, 55);
        edge.due("an open() undone is none", x.word(0, 1, 3), new Heard(55, 6, SECRET + 2).word(1, 3));
    }

    /** Promise 21: "It is closed: 0. -2." */
    private static void closeOfEach() {
        StartLedger x = withSession();
        for (int i = 1; i < 4; i++) x.open(1, i);
        for (int s : Edge.outside(0, 3)) edge.refused(x, "close(" + s + ")", -2, () -> x.close(s));
        for (int s = 3; s >= 0; s--) {
            int session = s;
            edge.taken(x, "close(" + s + ")", 0, () -> x.close(session));
            edge.refused(x, "close(" + s + ") once more", -2, () -> x.close(session));
            edge.due("SESSIONS", x.counts(10), (1 << s) - 1);
        }
    }

    /** "A SESSION is closed by its KEY no longer being LOADED." */
    private static void closedByItsKey() {
        for (int way = 0; way < 3; way++) {
            StartLedger x = withSession();
            x.open(1, 1);
            x.open(0, 2);
            x.open(2, 3);
            if (way == 0) x.flush(0);
            else if (way == 1) x.swapOut(0);
            else x.start();
            edge.due("SESSIONS", x.counts(10), way == 2 ? 0 : 10);
            for (int call = 1; call <= 4; call++) {
                int c = call;
                if (call == 1) edge.refusedAny(x, "unseal()", -2, () -> say(x, 0, c, 0, 0));
                else edge.refused(x, "call " + call, -2, () -> say(x, 0, c, 0, 0));
            }
            edge.due("word()", x.word(0, 1, 0), 0);
            edge.due("audit()", x.audit(2), 0);
            edge.due("of()", x.of(2, 0), NONE);
            if (way == 1) x.swapIn(0);
            else x.load(0, 0);
            edge.due("LOADED again it does not come back", x.counts(10), way == 2 ? 0 : 10);
        }
    }

    // ---- words, strain, promises 22 to 25

    /** "Behind each call by a SESSION that is not REFUSED by -1, -2 NONCE is MIX of it and the WORD", of calls not refused. */
    private static void wordsThatAreRight() {
        StartLedger x = withSession();
        Heard h = first();
        x.policy(2, 0, 0);
        x.seal(0, 777, NONE);
        x.seal(0, LEAST, 0);
        heard(x, "at first", h);
        taken(x, h, 1, 0, 777);
        taken(x, h, 1, 0, 777);
        taken(x, h, 2, 0, 1);
        taken(x, h, 3, 0, 1);
        taken(x, h, 3, 3, 1);
        taken(x, h, 3, 3, 2);
        taken(x, h, 4, -9, 0);
        taken(x, h, 1, 1, LEAST);
        taken(x, h, 4, LEAST, 0);
        taken(x, h, 4, LEAST, 0);
        taken(x, h, 1, 0, 777);
    }

    /** The same of -1, -2: nothing goes on. */
    private static void notByNoSuchThing() {
        StartLedger x = withSession();
        x.policy(2, 0, 0);
        x.seal(0, 777, NONE);
        for (int o : Edge.outside(0, 0)) {
            edge.refusedAny(x, "unseal(" + o + ", 0)", -2, () -> x.unseal(o, 0, 1));
            edge.refusedAny(x, "unseal(0, " + o + ")", -2, () -> x.unseal(0, o, x.word(0, 1, o)));
            edge.refused(x, "approve(" + o + ", 0)", -2, () -> x.approve(o, 0, 1));
            edge.refused(x, "approve(0, " + o + ")", -2, () -> x.approve(0, o, x.word(0, 2, o)));
            edge.refused(x, "count(" + o + ", 0)", -2, () -> x.count(o, 0, 1));
            edge.refused(x, "renew(" + o + ", 0)", -2, () -> x.renew(o, 0, 1));
        }
        for (int c : Edge.outside(0, 3)) {
            edge.refused(x, "count(0, " + c + ")", -1, () -> x.count(0, c, x.word(0, 3, c)));
            edge.refused(x, "count(1, " + c + "): -1 ahead of -2", -1, () -> x.count(1, c, 0));
        }
        heard(x, "as at first", first());
    }

    /** "A wrong WORD (it is asked for behind -3, -4, -5): STRAIN is 1 more." Promise 22: "-3; -4 (another KEY); -6; -7". */
    private static void unsealRefused() {
        StartLedger x = withSession();
        Heard h = first();
        x.policy(2, 3, 0);
        x.seal(0, 1, NONE);
        x.seal(0, 2, 0);
        x.seal(1, 3, NONE);
        x.seal(1, 4, 0);
        for (int right = 0; right < 2; right++) {
            int wrong = 1 - right;
            refused(x, h, -4, 1, 2, h.word(1, 2) + wrong);
            refused(x, h, -4, 1, 3, h.word(1, 3) + wrong);
        }
        refused(x, h, -6, 1, 0, h.word(1, 0) + 1);
        refused(x, h, -6, 1, 1, h.word(1, 1) - 1);
        refused(x, h, -7, 1, 1, h.word(1, 1));
        refused(x, h, -6, 1, 0, h.word(1, 1));
        refused(x, h, -6, 1, 0, h.word(2, 0));
        lock(x, h);
        for (int seal = 0; seal < 4; seal++) {
            refused(x, h, -3, 1, seal, h.word(1, seal));
            refused(x, h, -3, 1, seal, 0);
        }
        edge.refusedAny(x, "unseal(0, 4): -2 ahead of -3", -2, () -> x.unseal(0, 4, 0));
    }

    /** Three wrong words by session 0. */
    private static void lock(StartLedger x, Heard h) {
        for (int i = 0; i < 3; i++) {
            int word = h.word(4, i) + 1;
            x.renew(0, i, word);
            h.go(4, i, word, -6);
        }
        heard(x, "three wrong words", h);
        edge.due("it is LOCKED", x.locked(), 1);
    }

    /** Promise 23: "-4 (it has); -5 (8 of all KEYS together); -6". */
    private static void approveRefused() {
        StartLedger x = withSession();
        Heard h = first();
        for (int p = 0; p < 10; p++) x.policy(2, p % 4, 0);
        x.open(1, 9);
        taken(x, h, 2, 0, 1);
        refused(x, h, -4, 2, 0, h.word(2, 0));
        refused(x, h, -4, 2, 0, 0);
        refused(x, h, -6, 2, 1, h.word(2, 2));
        for (int p = 0; p < 4; p++) edge.due("approve(1)", x.approve(1, p, x.word(1, 2, p)), p + 1);
        for (int p = 1; p < 4; p++) taken(x, h, 2, p, p + 1);
        edge.due("APPROVED of all KEYS", x.counts(16), 8);
        for (int p = 4; p < 10; p++) {
            refused(x, h, -5, 2, p, h.word(2, p));
            refused(x, h, -5, 2, p, 0);
        }
        refused(x, h, -4, 2, 3, h.word(2, 3));
        lock(x, h);
        refused(x, h, -3, 2, 0, h.word(2, 0));
        refused(x, h, -3, 2, 9, 0);
        edge.refused(x, "approve(0, 10): -2 ahead of -3", -2, () -> x.approve(0, 10, 0));
    }

    /** Promise 23: "8 of all KEYS together", by one KEY alone; "how many it has APPROVED", by whichever SESSION. */
    private static void approveEight() {
        StartLedger x = withSession();
        x.open(0, 1);
        for (int p = 0; p < 9; p++) x.policy(2, 0, 0);
        for (int p = 0; p < 8; p++) {
            int session = p % 2;
            int policy = p;
            edge.taken(x, "approve(" + p + ")", p + 1, () -> x.approve(session, policy, x.word(session, 2, policy)));
        }
        edge.due("the ninth", x.approve(1, 8, x.word(1, 2, 8)), -5);
        edge.due("it has, by another SESSION", x.approve(1, 0, x.word(1, 2, 0)), -4);
        x.start();
        edge.due("a START does not take it back", x.ofKey(0, 3), 8);
        x.load(0, 1);
        x.open(0, 1);
        edge.due("nor does it make room", x.approve(0, 8, x.word(0, 2, 8)), -5);
    }

    /** "COUNTERS 0 .. 3 (0 at first; 9,999 at most) only grow"; promise 24: "-3; -5 (9,999); -6". */
    private static void countRefused() {
        StartLedger x = withSession();
        Heard h = first();
        for (int n = 1; n <= 9_998; n++) {
            int word = h.word(3, 2);
            x.count(0, 2, word);
            h.go(3, 2, word, 0);
        }
        refused(x, h, -6, 3, 2, 1);
        taken(x, h, 3, 2, 9_999);
        refused(x, h, -5, 3, 2, h.word(3, 2));
        refused(x, h, -5, 3, 2, 1);
        taken(x, h, 3, 1, 1);
        x.policy(1, 2, 9_999);
        x.policy(1, 2, 9_998);
        edge.due("9,999 is 9,999 at most", x.asks(0, 0), 1);
        edge.due("9,999 is not 9,998 at most", x.asks(1, 0), 0);
        lock(x, h);
        refused(x, h, -3, 3, 2, h.word(3, 2));
        refused(x, h, -3, 3, 0, 0);
        edge.refused(x, "count(0, 4): -1 ahead of -3", -1, () -> x.count(0, 4, 0));
        edge.refused(x, "count(1, 0): -2 ahead of -3", -2, () -> x.count(1, 0, 0));
    }

    /** Promise 25: "the SECRET of its KEY becomes it (SEALS stay): 0. -2; -3; -6." */
    private static void renewRefused() {
        StartLedger x = withSession();
        Heard h = first();
        x.seal(0, 777, NONE);
        int[] secrets = {0, -1, LEAST, MOST};
        for (int secret : secrets) {
            refused(x, h, -6, 4, secret, h.word(4, secret) + 1);
            taken(x, h, 4, secret, 0);
            edge.due("the QUOTE", x.quote(0, 0, 1), Check.mix(Check.hash(17, 1, 1, 0), secret));
            edge.due("another KEY's", x.quote(1, 0, 1), Check.mix(Check.hash(17, 1, 1, 0), SECRET + 1));
            taken(x, h, 1, 0, 777);
        }
        lock(x, h);
        refused(x, h, -3, 4, 5, h.word(4, 5));
        edge.refused(x, "renew(1): -2 ahead of -3", -2, () -> x.renew(1, 5, 0));
    }

    /** A SECRET that is renewed is heard by each SESSION on that KEY, and stays over a START and a swap. */
    private static void renewedForAll() {
        StartLedger x = withSession();
        x.open(0, 66);
        x.open(1, 77);
        x.renew(0, 12, x.word(0, 4, 12));
        Heard other = new Heard(66, 1, SECRET);
        other.secret = 12;
        edge.due("another SESSION on the KEY: its NONCE stays", x.word(1, 1, 3), other.word(1, 3));
        edge.due("a SESSION on another KEY", x.word(2, 1, 3), new Heard(77, 2, SECRET + 1).word(1, 3));
        x.swapOut(0);
        x.swapIn(0);
        edge.due("SWAPPED", x.quote(0, 0, 1), Check.mix(Check.hash(17, 1, 1, 0), 12));
        x.start();
        x.load(0, 0);
        edge.due("behind a START", x.quote(0, 0, 1), Check.mix(Check.hash(17, 1, 2, 0), 12));
    }

    /** "STRAIN is a float, 0 at first; it is LOCKED, if STRAIN is 3 or more." Promise 51: "(0: it is not)". */
    private static void lockedFromThreeOn() {
        StartLedger x = withSession();
        edge.due("STRAIN at first", x.fresh(0, 1), 0);
        for (int n = 1; n <= 3; n++) {
            edge.due("it is not LOCKED", x.locked(), 0);
            edge.due("a wrong WORD", x.count(0, 0, x.word(0, 3, 0) + 1), -6);
            edge.due("STRAIN", x.fresh(0, 1), Float.floatToIntBits(n));
        }
        edge.due("it is LOCKED by 3", x.locked(), 1);
        edge.due("a right WORD", x.count(0, 0, x.word(0, 3, 0)), -3);
        edge.due("a wrong WORD", x.count(0, 0, x.word(0, 3, 0) + 1), -3);
        edge.due("LOCKED, a wrong WORD does not strain", x.fresh(0, 1), Float.floatToIntBits(3f));
        x.tick(1);
        edge.due("it is not LOCKED by 2.25", x.locked(), 0);
        edge.due("a right WORD", x.count(0, 0, x.word(0, 3, 0)), 1);
        edge.due("a right WORD does not take STRAIN away", x.fresh(0, 1), Float.floatToIntBits(2.25f));
    }

    /** The same just below 3, where wrong words and ticks in turn come to. */
    private static void notLockedJustBelowThree() {
        StartLedger x = withSession();
        float strain = 0f;
        for (int i = 0; i < 80; i++) {
            edge.due("it is not LOCKED", x.locked(), 0);
            edge.due("a wrong WORD", x.renew(0, 0, x.word(0, 4, 0) + 1), -6);
            strain = strain + 1f;
            edge.due("STRAIN", x.fresh(0, 1), Float.floatToIntBits(strain));
            edge.due("locked()", x.locked(), strain >= 3f ? 1 : 0);
            x.tick(1);
            strain = strain * 0.75f;
            edge.due("STRAIN", x.fresh(0, 1), Float.floatToIntBits(strain));
        }
        edge.truth("it came to the floats just below 3", strain < 3f && strain > 2.999999f);
    }

    /** "By each TICK TIME is 1 more, STRAIN three quarters of it": n TICKS are n steps, rounded one by one. */
    private static void strainByTicks() {
        for (int n = 1; n <= 100; n++) {
            StartLedger x = withSession();
            Edge.strain(x, 0, 2);
            x.tick(1);
            Edge.strain(x, 0, 1);
            float strain = 2f * 0.75f + 1f;
            for (int i = 0; i < n; i++) strain *= 0.75f;
            x.tick(n);
            edge.due("STRAIN by " + n, x.fresh(0, 1), Float.floatToIntBits(strain));
        }
    }

    // ---- promises 35 to 37, 43, 44

    /** Promise 35: "for a call 1 .. 4 with a number. 0 for others." */
    private static void othersOfWord() {
        StartLedger x = withSession();
        x.open(1, 1);
        int[] numbers = {0, -1, 99, LEAST, MOST};
        for (int n : numbers) {
            for (int call = 1; call <= 4; call++) edge.due("word(0)", x.word(0, call, n), first().word(call, n));
            for (int call : Edge.outside(1, 4)) edge.due("word(0, " + call + ")", x.word(0, call, n), 0);
            for (int s : Edge.outside(0, 1)) edge.due("word(" + s + ", 1)", x.word(s, 1, n), 0);
        }
        Edge.strain(x, 1, 3);
        edge.due("LOCKED or not", x.word(0, 1, 5), first().word(1, 5));
    }

    /** Promise 36: "0 for others (no such SLOT with a KEY, set)." */
    private static void othersOfQuote() {
        StartLedger x = withSession();
        for (int slot : Edge.outside(0, 2)) edge.due("quote(" + slot + ")", x.quote(slot, 1, 1), 0);
        for (int set : Edge.outside(0, 255)) edge.due("quote(0, " + set + ")", x.quote(0, set, 1), 0);
        x.flush(1);
        x.swapOut(2);
        edge.due("quote(1), flushed", x.quote(1, 1, 1), 0);
        edge.due("quote(2), SWAPPED", x.quote(2, 1, 1), 0);
    }

    /** QUOTE: "MIX of HASH of (DIGEST, the number, STARTS, TIME) and the KEY's SECRET." */
    private static void quoteOfEach() {
        StartLedger x = withSession();
        int[] sets = {0, 1, 128, 192, 255};
        int[] numbers = {0, -1, LEAST, MOST};
        for (int round = 0; round < 3; round++) {
            for (int set : sets) {
                for (int n : numbers) {
                    int hash = Check.hash(x.digest(set), n, x.counts(2), x.counts(1));
                    int quote = Check.mix(hash, SECRET + 2);
                    edge.due("quote(2, " + set + ", " + n + ")", x.quote(2, set, n), quote);
                    boolean right = x.checks(2, x.digest(set), n, x.counts(2), x.counts(1), quote);
                    edge.truth("it checks", right);
                }
            }
            if (round == 0) x.start();
            for (int k = 0; k < 3; k++) x.load(0, k);
            x.tick(7);
            x.extend(0, 7);
        }
    }

    /** Promise 37: "at a told number of STARTS and TIME. False for others." */
    private static void othersOfChecks() {
        StartLedger x = withSession();
        int quote = Check.mix(Check.hash(1, 2, 3, 4), SECRET);
        edge.truth("told", x.checks(0, 1, 2, 3, 4, quote));
        edge.truth("another KEY", !x.checks(1, 1, 2, 3, 4, quote));
        for (int slot : Edge.outside(0, 2)) edge.truth("no SLOT", !x.checks(slot, 1, 2, 3, 4, quote));
        x.swapOut(0);
        edge.truth("SWAPPED", !x.checks(0, 1, 2, 3, 4, quote));
        edge.truth("SWAPPED, by a SECRET 0", !x.checks(0, 1, 2, 3, 4, Check.mix(Check.hash(1, 2, 3, 4), 0)));
        edge.truth("SWAPPED, by a QUOTE 0", !x.checks(0, 1, 2, 3, 4, 0));
        x.load(0, 0);
        x.swapIn(0);
        int[] far = {0, -1, LEAST, MOST};
        for (int n : far) {
            int due = Check.mix(Check.hash(n, -n, n, -n), SECRET + 1);
            edge.truth("any ints may be told", x.checks(1, n, -n, n, -n, due));
        }
        edge.due("it is asked, not done", x.status(), 0);
    }

    /** AUDIT: "0 at first"; promise 43: "0 for others." */
    private static void othersOfAudit() {
        StartLedger x = withSession();
        edge.due("at first", x.audit(0), 0);
        x.count(0, 0, 0);
        edge.truth("behind a call", x.audit(0) != 0);
        for (int s : Edge.outside(0, 0)) edge.due("audit(" + s + ")", x.audit(s), 0);
        x.open(0, 5);
        edge.due("another SESSION's", x.audit(1), 0);
        x.close(0);
        edge.due("closed", x.audit(0), 0);
        x.open(0, 5);
        edge.due("opened anew", x.audit(0), 0);
    }

    /** Promise 44: "The least number 0 .. 999 .. NONE." */
    private static void guessOfEach() {
        StartLedger x = withSession();
        x.tick(3);
        for (int n = 0; n < 1000; n++) edge.due("guess() of " + n, x.guess(2, 9, x.quote(2, 9, n)), n);
        for (int n : Edge.outside(0, 999)) edge.due("guess() of " + n, x.guess(2, 9, x.quote(2, 9, n)), NONE);
        for (int bit = 10; bit < 32; bit++) {
            int n = 5 | 1 << bit;
            edge.due("guess() of " + n, x.guess(2, 9, x.quote(2, 9, n)), NONE);
        }
        int quote = x.quote(2, 9, 5);
        for (int slot : Edge.outside(0, 2)) edge.due("guess(" + slot + ")", x.guess(slot, 9, quote), NONE);
        for (int set : Edge.outside(0, 255)) edge.due("guess(2, " + set + ")", x.guess(2, set, 0), NONE);
        x.start();
        edge.due("no KEY", x.guess(2, 9, quote), NONE);
        for (int k = 0; k < 3; k++) x.load(0, k);
        edge.due("another START", x.guess(2, 9, quote), NONE);
    }

    private static void sessions() {
        theLowestThatIsNotOpen();
        openOfNoKey();
        nonceOfEach();
        closeOfEach();
        closedByItsKey();
    }

    private static void words() {
        wordsThatAreRight();
        notByNoSuchThing();
        unsealRefused();
        approveRefused();
        approveEight();
        countRefused();
        renewRefused();
        renewedForAll();
        lockedFromThreeOn();
        notLockedJustBelowThree();
        strainByTicks();
    }

    private static void questions() {
        othersOfWord();
        othersOfQuote();
        quoteOfEach();
        othersOfChecks();
        othersOfAudit();
        guessOfEach();
    }

    public static void main(String[] args) {
        sessions();
        words();
        questions();
        edge.end("SessionEdgesTest");
    }
}
