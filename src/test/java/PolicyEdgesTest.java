/**
 * Each sentence of Terms II on policies and seals, of FORESEEN in Terms III, and of promises 17 to 19, 38 to 40, 42
 * that names an edge, by a test of its own: the sentence stands above it.
 */
public final class PolicyEdgesTest {
    private static final Edge edge = new Edge();
    private static final int NONE = StartLedger.NONE;
    private static final int FOR_EVER = 100_000;
    private static final int LEAST = Integer.MIN_VALUE;
    private static final int MOST = Integer.MAX_VALUE;

    /** Keys 0 .. below none; key 0 is loaded in slot 0, session 0 is open on it. */
    private static StartLedger withKeys(int keys) {
        StartLedger x = new StartLedger();
        for (int k = 0; k < keys; k++) x.key(NONE, 100 + k);
        x.load(0, 0);
        x.open(0, 5);
        return x;
    }

    private static void approve(StartLedger x, int policy) {
        edge.due("approve(" + policy + ")", x.approve(0, policy, x.word(0, 2, policy)) > 0 ? 1 : 0, 1);
    }

    private static void counted(StartLedger x, int counter, int many) {
        for (int i = 0; i < many; i++) x.count(0, counter, x.word(0, 3, counter));
    }

    private static void asked(StartLedger x, int p, int holds, int outlook, int till, int yet) {
        edge.due("asks(" + p + ", 0)", x.asks(p, 0), holds);
        edge.due("asks(" + p + ", 1)", x.asks(p, 1), outlook);
        edge.due("asks(" + p + ", 4)", x.asks(p, 4), till);
        edge.due("asks(" + p + ", 5)", x.asks(p, 5), yet);
    }

    private static void holdsForEver(StartLedger x, int p) {
        asked(x, p, 1, 0, FOR_EVER, 0);
    }

    private static void holdsNot(StartLedger x, int p, int outlook) {
        asked(x, p, 0, outlook, NONE, 1);
    }

    // ---- promises 17 to 19

    /** "POLICIES 0 .. 23, as they come"; promises 17, 18: "-5 (24 there are". */
    private static void twentyFourPolicies() {
        StartLedger x = withKeys(1);
        for (int p = 0; p < 24; p++) {
            int n = p;
            if (p % 2 == 0) edge.taken(x, "policy() " + p, n, () -> x.policy(2, 1, 0));
            else edge.taken(x, "policyNow() " + p, n, () -> x.policyNow(n));
            edge.due("POLICIES", x.counts(8), p + 1);
        }
        int[][] all = {{0, 0, 0}, {1, 0, 0}, {2, 0, 0}, {3, 0, 0}, {4, 0, 0}, {5, 0, 0}, {6, 0, 0}, {7, 0, 0}};
        for (int[] a : all) edge.refused(x, "one more, SORT " + a[0], -5, () -> x.policy(a[0], a[1], a[2]));
        edge.refused(x, "policyNow(), one more", -5, () -> x.policyNow(1));
        edge.refused(x, "policyNow(256): -1 ahead of -5", -1, () -> x.policyNow(256));
        edge.refused(x, "policy(8, ..): -1 ahead of -5", -1, () -> x.policy(8, 0, 0));
        edge.refused(x, "policy(3, 0, 24): -2 ahead of -5", -2, () -> x.policy(3, 0, 24));
        edge.refused(x, "policy(6, 1, 0): -2 ahead of -5", -2, () -> x.policy(6, 1, 0));
    }

    /** Promise 17: "-1 (SORT 0 .. 7; a: a set of REGISTERS, a COUNTER, a LOCALITY, a REGISTER". */
    private static void numbersThatCannotBe() {
        StartLedger x = withKeys(1);
        for (int sort : Edge.outside(0, 7)) edge.refused(x, "policy(" + sort + ")", -1, () -> x.policy(sort, 0, 0));
        int[] sorts = {0, 1, 2, 7};
        int[] most = {255, 3, 3, 7};
        for (int i = 0; i < sorts.length; i++) {
            int sort = sorts[i];
            int last = most[i];
            for (int a : Edge.outside(0, last)) {
                edge.refused(x, "policy(" + sort + ", " + a + ", 0)", -1, () -> x.policy(sort, a, 0));
            }
            edge.taken(x, "policy(" + sort + ", 0, 0)", 2 * i, () -> x.policy(sort, 0, 0));
            edge.taken(x, "policy(" + sort + ", " + last + ", 0)", 2 * i + 1, () -> x.policy(sort, last, 0));
            edge.due("its a", x.of(2 * i + 1, 4), last);
        }
    }

    /** Promise 17: "b of 1: 0 .. 9,999, of 5: 0 .. 99,999)"; any other b may be any int. */
    private static void numbersOfB() {
        StartLedger x = withKeys(1);
        for (int b : Edge.outside(0, 9_999)) edge.refused(x, "policy(1, 0, " + b + ")", -1, () -> x.policy(1, 0, b));
        for (int b : Edge.outside(0, 99_999)) edge.refused(x, "policy(5, 0, " + b + ")", -1, () -> x.policy(5, 0, b));
        int[][] right = {{1, 3, 0}, {1, 3, 9_999}, {5, 0, 0}, {5, 0, 99_999}, {0, 1, LEAST}, {0, 1, MOST},
            {2, 1, LEAST}, {2, 1, MOST}, {6, 0, LEAST}, {6, 0, MOST}, {7, 1, LEAST}, {7, 1, MOST}};
        for (int i = 0; i < right.length; i++) {
            int[] r = right[i];
            edge.taken(x, "policy(" + r[0] + ", ..)", i, () -> x.policy(r[0], r[1], r[2]));
        }
        edge.taken(x, "a of 5 is not asked", 12, () -> x.policy(5, LEAST, 1));
        edge.taken(x, "a of 5 is not asked", 13, () -> x.policy(5, MOST, 1));
    }

    /** "a of 5, b of 2 and 6 are 0, whatever is told." */
    private static void numbersThatAreNought() {
        StartLedger x = withKeys(2);
        int[] told = {0, 1, -1, LEAST, MOST};
        for (int t : told) {
            x.policy(5, t, 3);
            x.policy(2, 1, t);
            x.policy(6, 1, t);
        }
        int[] due = {Check.hash(5, 0, 3), Check.hash(2, 1, 0), Check.hash(6, 1, 0)};
        int[] a = {0, 1, 1};
        int[] alike = {0x1249, 0x2492, 0x4924};
        for (int p = 0; p < 15; p++) {
            edge.due("its a", x.of(p, 4), a[p % 3]);
            edge.due("its NAME", x.asks(p, 2), due[p % 3]);
            edge.due("POLICIES with that NAME", x.asks(p, 6), alike[p % 3]);
        }
    }

    /** Promise 17: "-2 (a POLICY, a KEY that there is not)". */
    private static void partsThatAreNot() {
        StartLedger x = withKeys(2);
        for (int sort = 3; sort <= 4; sort++) {
            int s = sort;
            edge.refused(x, "policy(" + sort + ", 0, 0) of none", -2, () -> x.policy(s, 0, 0));
            edge.refused(x, "policy(" + sort + ", NONE, NONE)", -2, () -> x.policy(s, NONE, NONE));
        }
        x.policy(2, 0, 0);
        x.policy(2, 0, 0);
        for (int sort = 3; sort <= 4; sort++) {
            int s = sort;
            for (int p : Edge.outside(0, 1)) {
                edge.refused(x, "policy(" + sort + ", " + p + ", 1)", -2, () -> x.policy(s, p, 1));
                edge.refused(x, "policy(" + sort + ", 1, " + p + ")", -2, () -> x.policy(s, 1, p));
            }
        }
        for (int k : Edge.outside(0, 1)) edge.refused(x, "policy(6, " + k + ", 0)", -2, () -> x.policy(6, k, 0));
        edge.taken(x, "policy(3, 1, 1)", 2, () -> x.policy(3, 1, 1));
        edge.taken(x, "policy(6, 1, 0), the KEY not LOADED", 3, () -> x.policy(6, 1, 0));
    }

    /** "A POLICY is MADE of itself and, of 3, 4, all that its two are MADE of (those of both counted twice), 40 at most." */
    private static void madeOfForty() {
        for (int sort = 3; sort <= 4; sort++) {
            StartLedger x = new StartLedger();
            int s = sort;
            x.policy(2, 0, 0);
            int[] due = {1, 3, 7, 15, 31, 5, 9, 19, 39, 21};
            int[][] parts = {{}, {0, 0}, {1, 1}, {2, 2}, {3, 3}, {1, 0}, {2, 0}, {6, 6}, {7, 7}, {7, 0}};
            for (int i = 1; i < due.length; i++) {
                int[] part = parts[i];
                int n = i;
                edge.taken(x, "policy(" + sort + ", ..)", n, () -> x.policy(s, part[0], part[1]));
            }
            for (int i = 0; i < due.length; i++) edge.due("asks(" + i + ", 3)", x.asks(i, 3), due[i]);
            edge.refused(x, "it would be MADE of 41", -5, () -> x.policy(s, 8, 0));
            edge.refused(x, "it would be MADE of 41", -5, () -> x.policy(s, 0, 8));
            edge.refused(x, "it would be MADE of 41", -5, () -> x.policy(s, 7, 9));
            edge.refused(x, "it would be MADE of 79", -5, () -> x.policy(s, 8, 8));
            edge.taken(x, "MADE of 39", 10, () -> x.policy(s, 4, 2));
            edge.due("asks(10, 3)", x.asks(10, 3), 39);
            edge.taken(x, "there is room for a small one", 11, () -> x.policy(2, 0, 0));
        }
    }

    /** Of the other SORTS a POLICY is MADE of itself alone, whatever its a and b are. */
    private static void madeOfItselfAlone() {
        StartLedger x = withKeys(2);
        x.policy(2, 0, 0);
        x.policy(3, 0, 0);
        int[][] alone = {{0, 1, 1}, {1, 1, 1}, {2, 1, 1}, {5, 1, 1}, {6, 1, 1}, {7, 1, 1}};
        for (int i = 0; i < alone.length; i++) {
            x.policy(alone[i][0], alone[i][1], alone[i][2]);
            edge.due("SORT " + alone[i][0] + " is MADE of", x.asks(2 + i, 3), 1);
        }
    }

    /** Promise 18: "A POLICY of the STATE of a set of REGISTERS as they are now: its number. -1". */
    private static void policyNowOfEach() {
        StartLedger x = withKeys(1);
        for (int set : Edge.outside(0, 255)) edge.refused(x, "policyNow(" + set + ")", -1, () -> x.policyNow(set));
        int[] sets = {0, 1, 128, 255, 63, 192};
        x.locality(1);
        for (int r = 0; r < 8; r++) x.extend(r, r + 9);
        for (int i = 0; i < sets.length; i++) {
            int n = i;
            edge.taken(x, "policyNow(" + sets[i] + ")", n, () -> x.policyNow(sets[n]));
            edge.due("its SORT", x.of(i, 3), 0);
            edge.due("its a", x.of(i, 4), sets[i]);
            edge.due("its NAME", x.asks(i, 2), Check.hash(0, sets[i], x.digest(sets[i])));
            holdsForEver(x, i);
        }
        x.extend(7, 1);
        int[] holds = {1, 1, 0, 0, 1, 0};
        for (int i = 0; i < sets.length; i++) edge.due("asks(" + i + ", 0)", x.asks(i, 0), holds[i]);
    }

    /** "SEALS 0 .. 9: a SECRET, a KEY below which it lies, a POLICY or NONE"; promise 19: "-5". */
    private static void tenSeals() {
        StartLedger x = withKeys(2);
        x.load(0, 1);
        x.policy(2, 1, 0);
        for (int i = 0; i < 10; i++) {
            int n = i;
            edge.taken(x, "seal() " + i, n, () -> x.seal(n % 2, LEAST + n, n % 3 == 0 ? 0 : NONE));
            edge.due("its KEY", x.of(i, 1), i % 2);
            edge.due("its POLICY", x.of(i, 2), i % 3 == 0 ? 0 : NONE);
            edge.due("SEALS", x.counts(9), i + 1);
        }
        edge.refused(x, "the eleventh", -5, () -> x.seal(0, 1, NONE));
        edge.refused(x, "seal(2): -2 ahead of -5", -2, () -> x.seal(2, 1, NONE));
        edge.refused(x, "seal(0, 1, 1): -2 ahead of -5", -2, () -> x.seal(0, 1, 1));
        x.start();
        x.load(0, 0);
        edge.refused(x, "a START does not make room", -5, () -> x.seal(0, 1, NONE));
    }

    /** Promise 19: "below the KEY in a SLOT, with a POLICY or NONE: its number. -2". */
    private static void sealOfOthers() {
        StartLedger x = withKeys(2);
        x.policy(2, 1, 0);
        x.policy(2, 1, 0);
        for (int slot : Edge.outside(0, 0)) edge.refused(x, "seal(" + slot + ")", -2, () -> x.seal(slot, 1, NONE));
        for (int p : Edge.outsideButNone(1)) edge.refused(x, "seal(0, 1, " + p + ")", -2, () -> x.seal(0, 1, p));
        x.load(0, 1);
        x.swapOut(1);
        edge.refused(x, "seal(1), SWAPPED", -2, () -> x.seal(1, 1, NONE));
        edge.taken(x, "seal(0, 1, 1), though it does not hold", 0, () -> x.seal(0, 1, 1));
    }

    // ---- what holds, promise 38

    /** "0 STATE: DIGEST of the set a of REGISTERS is b"; OUTLOOK: "2 if a REGISTER below 6 is in its set, else 1". */
    private static void stateOfEachRegister() {
        for (int r = 0; r < 8; r++) {
            StartLedger x = withKeys(1);
            x.locality(2);
            x.policyNow(1 << r);
            x.policyNow(1 << r | 64);
            x.policyNow(1 << r | 1);
            holdsForEver(x, 0);
            x.extend(r, 1);
            holdsNot(x, 0, r < 6 ? 2 : 1);
            holdsNot(x, 1, r < 6 ? 2 : 1);
            holdsNot(x, 2, 2);
        }
        StartLedger x = withKeys(1);
        x.policy(0, 0, 17);
        x.policy(0, 0, 16);
        holdsForEver(x, 0);
        holdsNot(x, 1, 1);
    }

    /** "1 COUNTER a is b at most"; OUTLOOK: "COUNTER, TIME: 2". */
    private static void counterAtMost() {
        for (int c = 0; c < 4; c++) {
            StartLedger x = withKeys(1);
            for (int b = 0; b < 3; b++) x.policy(1, c, b);
            x.policy(1, (c + 1) % 4, 0);
            for (int many = 0; many < 4; many++) {
                for (int b = 0; b < 3; b++) {
                    if (many <= b) holdsForEver(x, b);
                    else holdsNot(x, b, 2);
                }
                holdsForEver(x, 3);
                counted(x, c, 1);
            }
        }
    }

    /** "2 LOCALITY is a or more"; OUTLOOK: "LOCALITY: 1". */
    private static void localityOrMore() {
        StartLedger x = withKeys(1);
        for (int a = 0; a < 4; a++) x.policy(2, a, 0);
        for (int n = 0; n < 4; n++) {
            x.locality(n);
            for (int a = 0; a < 4; a++) {
                if (n >= a) holdsForEver(x, a);
                else holdsNot(x, a, 1);
            }
        }
    }

    /** "3 BOTH a and b (POLICIES) hold. 4 EITHER holds"; OUTLOOK, TILL, YET of each two. */
    private static void bothAndEither() {
        StartLedger x = withKeys(1);
        x.policy(2, 0, 0);   // 0: holds for ever
        x.policy(5, 0, 40);  // 1: holds till 40
        x.policy(2, 3, 0);   // 2: may come to hold
        x.policy(0, 1, 3);   // 3: is lost
        int[] outlook = {0, 0, 1, 2};
        int[] till = {FOR_EVER, 40, NONE, NONE};
        int[] yet = {0, 0, 1, 1};
        for (int a = 0; a < 4; a++) {
            for (int b = 0; b < 4; b++) {
                int both = x.policy(3, a, b);
                int either = x.policy(4, a, b);
                int greater = Math.max(outlook[a], outlook[b]);
                int lesser = Math.min(outlook[a], outlook[b]);
                asked(x, both, greater == 0 ? 1 : 0, greater, Math.min(till[a], till[b]), yet[a] + yet[b]);
                asked(x, either, lesser == 0 ? 1 : 0, lesser, Math.max(till[a], till[b]), Math.min(yet[a], yet[b]));
                x.undo();
                x.undo();
            }
        }
    }

    /** YET: "0 of one that holds; of BOTH those of each together, of EITHER the lesser, of any other 1." */
    private static void yetOfTrees() {
        StartLedger x = withKeys(1);
        x.policy(2, 1, 0);   // 0
        x.policy(2, 2, 0);   // 1
        x.policy(3, 0, 1);   // 2
        x.policy(3, 2, 2);   // 3: the same counted twice
        x.policy(4, 3, 2);   // 4
        x.policy(3, 4, 0);   // 5
        x.policy(4, 5, 5);   // 6
        int[][] due = {{1, 1, 2, 4, 2, 3, 3}, {0, 1, 1, 2, 1, 1, 1}, {0, 0, 0, 0, 0, 0, 0}};
        for (int n = 0; n < 3; n++) {
            x.locality(n);
            for (int p = 0; p < 7; p++) edge.due("asks(" + p + ", 5) at " + n, x.asks(p, 5), due[n][p]);
        }
    }

    /** "5 TIME is b at most"; OUTLOOK: "TIME: 2"; TILL: "of TIME b". */
    private static void timeAtMost() {
        StartLedger x = withKeys(1);
        int[] b = {0, 1, 2, 99_999};
        for (int most : b) x.policy(5, 0, most);
        for (int time = 0; time < 4; time++) {
            for (int p = 0; p < 4; p++) {
                if (time <= b[p]) asked(x, p, 1, 0, b[p], 0);
                else asked(x, p, 0, 2, b[p], 1);
            }
            x.tick(1);
        }
    }

    /** "6 SIGNED by KEY a: one of the POLICIES that it has APPROVED holds"; OUTLOOK: "SIGNED: 1"; TILL: "(none without". */
    private static void signedByItsKey() {
        StartLedger x = withKeys(2);
        x.policy(6, 0, 0);   // 0
        x.policy(6, 1, 0);   // 1
        x.policy(2, 1, 0);   // 2
        x.policy(2, 2, 0);   // 3
        holdsNot(x, 0, 1);
        approve(x, 3);
        holdsNot(x, 0, 1);
        approve(x, 2);
        holdsNot(x, 0, 1);
        x.locality(1);
        holdsForEver(x, 0);
        holdsNot(x, 1, 1);
        x.locality(2);
        holdsForEver(x, 0);
        x.start();
        holdsNot(x, 0, 1);
        x.locality(1);
        holdsForEver(x, 0);
    }

    /** "(in those whatever is SIGNED does not hold)": by itself, by another KEY, within a tree. */
    private static void signedInWhatIsSigned() {
        StartLedger x = withKeys(2);
        x.load(0, 1);
        x.open(1, 5);
        x.policy(2, 0, 0);   // 0: holds
        x.policy(6, 1, 0);   // 1: signed by key 1
        x.policy(6, 0, 0);   // 2: signed by key 0
        x.policy(4, 1, 2);   // 3: either is signed
        x.policy(3, 0, 1);   // 4: holds, and is signed by key 1
        x.approve(1, 0, x.word(1, 2, 0));
        holdsForEver(x, 1);
        holdsForEver(x, 4);
        int[] signed = {1, 2, 3, 4};
        for (int p : signed) {
            approve(x, p);
            holdsNot(x, 2, 1);
            holdsForEver(x, 3);
        }
        x.policy(4, 1, 0);   // 5: signed or what holds
        approve(x, 5);
        holdsForEver(x, 2);
    }

    /** TILL: "of SIGNED the latest of those APPROVED (.. in these whatever is SIGNED: none)". */
    private static void tillOfSigned() {
        StartLedger x = withKeys(1);
        x.policy(6, 0, 0);   // 0
        x.policy(5, 0, 4);   // 1
        x.policy(5, 0, 9);   // 2
        x.policy(4, 0, 1);   // 3: signed or till 4
        x.policy(3, 0, 2);   // 4: signed and till 9
        edge.due("none without", x.asks(0, 4), NONE);
        approve(x, 4);
        edge.due("BOTH with what is SIGNED", x.asks(0, 4), NONE);
        approve(x, 3);
        edge.due("EITHER with what is SIGNED", x.asks(0, 4), 4);
        approve(x, 0);
        edge.due("SIGNED by itself", x.asks(0, 4), 4);
        approve(x, 2);
        edge.due("the latest", x.asks(0, 4), 9);
        edge.due("BOTH", x.asks(4, 4), 9);
        x.policy(2, 0, 0);
        approve(x, 5);
        edge.due("for ever", x.asks(0, 4), FOR_EVER);
        edge.due("EITHER", x.asks(3, 4), FOR_EVER);
        edge.due("BOTH", x.asks(4, 4), 9);
    }

    /** "7 LOGGED: the LOG gives REGISTER a as it is, and an entry of it has the NUMBER b." */
    private static void loggedOfEachRegister() {
        for (int r = 0; r < 8; r++) {
            StartLedger x = withKeys(1);
            x.locality(2);
            x.policy(7, r, 5);
            holdsNot(x, 0, 1);
            x.measure((r + 1) % 8, 5);
            holdsNot(x, 0, 1);
            x.measure(r, 6);
            holdsNot(x, 0, 1);
            x.claim(r, 5);
            holdsNot(x, 0, 1);
            x.measure(r, 5);
            holdsForEver(x, 0);
            x.measure(r, 7);
            holdsForEver(x, 0);
            x.extend((r + 1) % 8, 1);
            holdsForEver(x, 0);
            x.extend(r, 5);
            holdsNot(x, 0, r < 6 ? 2 : 1);
        }
    }

    /** LOGGED: "2, if the LOG does not give the REGISTER and that is below 6, else 1", an entry of it or not. */
    private static void outlookOfLogged() {
        for (int r = 0; r < 8; r++) {
            StartLedger x = withKeys(1);
            x.locality(2);
            x.policy(7, r, 5);
            x.extend(r, 5);
            holdsNot(x, 0, r < 6 ? 2 : 1);
            x.start();
            holdsNot(x, 0, 1);
        }
        StartLedger x = withKeys(1);
        x.locality(2);
        x.policy(7, 6, 5);
        x.measure(6, 5);
        x.reset(6);
        holdsNot(x, 0, 1);
        x.extend(6, Edge.numberFor(0, Check.mix(-1, 5)));
        holdsForEver(x, 0);
    }

    /** LOGGED by the first and by the last of 40 entries. */
    private static void loggedInAFullLog() {
        StartLedger x = withKeys(1);
        for (int i = 0; i < 40; i++) x.measure(0, i);
        x.policy(7, 0, 0);
        x.policy(7, 0, 39);
        x.policy(7, 0, 40);
        holdsForEver(x, 0);
        holdsForEver(x, 1);
        holdsNot(x, 2, 1);
    }

    /** NAME: "HASH of its SORT, a, b, but of 3, 4 the NAMES of a, b in their place." */
    private static void namesOfTrees() {
        StartLedger x = withKeys(1);
        x.policy(7, 1, -8);
        x.policy(0, 9, LEAST);
        x.policy(3, 0, 1);
        x.policy(4, 0, 1);
        x.policy(4, 1, 0);
        x.policy(3, 3, 2);
        int a = Check.hash(7, 1, -8);
        int b = Check.hash(0, 9, LEAST);
        int[] due = {a, b, Check.hash(3, a, b), Check.hash(4, a, b), Check.hash(4, b, a),
            Check.hash(3, Check.hash(4, a, b), Check.hash(3, a, b))};
        for (int p = 0; p < due.length; p++) {
            edge.due("asks(" + p + ", 2)", x.asks(p, 2), due[p]);
            edge.due("asks(" + p + ", 6), itself, too", x.asks(p, 6), 1 << p);
        }
    }

    /** Promise 38: "POLICIES with the same NAME, itself, too, as bits (6)": all 24, by different numbers too. */
    private static void sameNames() {
        StartLedger x = withKeys(1);
        for (int p = 0; p < 24; p++) x.policy(2, 1, p);
        for (int p = 0; p < 24; p++) edge.due("asks(" + p + ", 6)", x.asks(p, 6), 0xFFFFFF);
        StartLedger y = withKeys(1);
        y.policy(2, 1, 0);
        y.policy(2, 1, 7);
        y.policy(3, 0, 1);
        y.policy(3, 1, 0);
        y.policy(3, 0, 0);
        int[] due = {3, 3, 28, 28, 28};
        for (int p = 0; p < 5; p++) edge.due("asks(" + p + ", 6)", y.asks(p, 6), due[p]);
    }

    /** Promise 38: "its NAME (2; any int)": 0 and -1 are names as any other. */
    private static void oddNames() {
        int[] names = {0, -1, LEAST, 17};
        for (int name : names) {
            StartLedger x = withKeys(1);
            int b = Edge.numberFor(Check.hash(0, 3), name);
            edge.taken(x, "policy(0, 3, " + b + ")", 0, () -> x.policy(0, 3, b));
            edge.due("asks(0, 2)", x.asks(0, 2), name);
            edge.due("asks(0, 6)", x.asks(0, 6), 1);
            x.policy(3, 0, 0);
            edge.due("asks(1, 2)", x.asks(1, 2), Check.hash(3, name, name));
            edge.due("asks(0, 6)", x.asks(0, 6), 1);
        }
    }

    /** Promise 38: "NONE for others." */
    private static void othersOfAsks() {
        StartLedger x = withKeys(1);
        x.policy(2, 0, 0);
        x.policy(2, 0, 0);
        for (int what = 0; what < 7; what++) {
            for (int p : Edge.outside(0, 1)) edge.due("asks(" + p + ", " + what + ")", x.asks(p, what), NONE);
        }
        for (int what : Edge.outside(0, 6)) edge.due("asks(0, " + what + ")", x.asks(0, what), NONE);
        StartLedger y = new StartLedger();
        for (int what = 0; what < 7; what++) edge.due("asks(0, " + what + ") of none", y.asks(0, what), NONE);
    }

    // ---- promises 39, 40, 42

    /** Promise 39: "of BOTH those of each that does not hold, of EITHER those of both, of any other one itself. 0 if it holds". */
    private static void whyOfEach() {
        StartLedger x = withKeys(1);
        x.policy(2, 0, 0);   // 0: holds
        x.policy(2, 1, 0);   // 1: does not
        x.policy(2, 2, 0);   // 2: does not
        int[] leaf = {0, 2, 4};
        for (int a = 0; a < 3; a++) {
            edge.due("why(" + a + ")", x.why(a), leaf[a]);
            for (int b = 0; b < 3; b++) {
                int both = x.policy(3, a, b);
                int either = x.policy(4, a, b);
                edge.due("why() of BOTH " + a + ", " + b, x.why(both), leaf[a] | leaf[b]);
                edge.due("why() of EITHER " + a + ", " + b, x.why(either), a == 0 || b == 0 ? 0 : leaf[a] | leaf[b]);
                x.undo();
                x.undo();
            }
        }
        x.policy(4, 0, 1);   // 3: holds, though 1 does not
        x.policy(3, 3, 2);   // 4: by 2 alone
        edge.due("a part that holds is not told", x.why(4), 4);
        for (int p : Edge.outside(0, 4)) edge.due("why(" + p + ")", x.why(p), NONE);
    }

    /** Promise 39: of each SORT "itself", the last of 24, too, and SIGNED itself, not what was APPROVED. */
    private static void whyOfEachSort() {
        StartLedger x = withKeys(1);
        counted(x, 0, 1);
        x.tick(1);
        for (int p = 0; p < 19; p++) x.policy(2, 3, 0);
        x.policy(0, 1, 1);   // 19
        x.policy(1, 0, 0);   // 20
        x.policy(5, 0, 0);   // 21
        x.policy(6, 0, 0);   // 22
        x.policy(7, 0, 0);   // 23
        approve(x, 19);
        for (int p = 0; p < 24; p++) edge.due("why(" + p + ")", x.why(p), 1 << p);
    }

    /** Promise 40: "SEALS that could be unsealed now (their KEY LOADED, their POLICY, if any, holds)". */
    private static void sealsThatCouldBe() {
        StartLedger x = withKeys(2);
        x.load(0, 1);
        edge.due("seals(0) of none", x.seals(0), 0);
        edge.due("seals(1) of none", x.seals(1), 0);
        x.policy(2, 1, 0);
        for (int i = 0; i < 10; i++) x.seal(i % 2, i, i < 5 ? NONE : 0);
        edge.due("seals(0)", x.seals(0), 31);
        x.locality(1);
        edge.due("seals(0)", x.seals(0), 1023);
        x.swapOut(1);
        edge.due("seals(0), KEY 1 SWAPPED", x.seals(0), 0x155);
        x.flush(0);
        edge.due("seals(0), no KEY LOADED", x.seals(0), 0);
        x.swapIn(0);
        edge.due("seals(0), KEY 1 back", x.seals(0), 0x2AA);
        Edge.strain(x, 0, 3);
        edge.due("seals(0), strained or not", x.seals(0), 0x2AA);
    }

    /** Promise 40: "those the POLICY of which is LOST (1). NONE for others." */
    private static void sealsThatAreLost() {
        StartLedger x = withKeys(1);
        x.policy(5, 0, 2);   // 0: by time
        x.policy(2, 3, 0);   // 1: may come to hold
        x.policy(3, 0, 1);   // 2
        x.policy(4, 0, 1);   // 3
        for (int p = NONE; p < 4; p++) x.seal(0, p, p);
        x.tick(2);
        edge.due("seals(1)", x.seals(1), 0);
        x.tick(1);
        edge.due("seals(1)", x.seals(1), 2 | 8);
        x.start();
        edge.due("seals(1), LOADED or not", x.seals(1), 2 | 8);
        for (int what : Edge.outside(0, 1)) edge.due("seals(" + what + ")", x.seals(what), NONE);
    }

    /** OUTLOOK: "2 it is LOST till the next START or for good". */
    private static void lostTillTheNextStart() {
        StartLedger x = withKeys(1);
        x.policyNow(1);
        x.policy(7, 0, 5);
        x.policy(5, 0, 0);
        x.policy(1, 0, 0);
        x.extend(0, 1);
        x.tick(1);
        counted(x, 0, 1);
        for (int p = 0; p < 4; p++) edge.due("asks(" + p + ", 1)", x.asks(p, 1), 2);
        x.start();
        int[] due = {0, 1, 2, 2};
        for (int p = 0; p < 4; p++) edge.due("asks(" + p + ", 1) behind a START", x.asks(p, 1), due[p]);
    }

    /** FORESEEN: "then all entries of the CLAIM MEASURED (of 6, 7 not by LOCALITY 0)"; promise 42: "NONE for others". */
    private static void foreseenByEachLocality() {
        for (int r = 0; r < 8; r++) {
            StartLedger x = withKeys(1);
            x.locality(1);
            x.policyNow(1 << r);        // 0: as at first
            x.extend(r, 5);
            x.policyNow(1 << r);        // 1: EXTENDED
            x.policy(7, r, 5);          // 2: LOGGED
            for (int p = NONE; p < 3; p++) x.seal(0, 1, p);
            for (int n = 0; n < 4; n++) edge.due("foreseen(" + n + "), nothing told", x.foreseen(n), 3);
            x.claim(r, 5);
            for (int n = 0; n < 4; n++) {
                edge.due("foreseen(" + n + "), of " + r, x.foreseen(n), r >= 6 && n == 0 ? 3 : 13);
            }
            for (int n : Edge.outside(0, 3)) edge.due("foreseen(" + n + ")", x.foreseen(n), NONE);
        }
    }

    /** FORESEEN: "that LOCALITY", not the one that is; of no SEALS and of ten. */
    private static void foreseenThatLocality() {
        StartLedger x = withKeys(1);
        for (int n = 0; n < 4; n++) edge.due("foreseen(" + n + ") of none", x.foreseen(n), 0);
        for (int a = 0; a < 4; a++) x.policy(2, a, 0);
        for (int i = 0; i < 10; i++) x.seal(0, i, i < 4 ? i : i < 8 ? 7 - i : NONE);
        int[] due = {1 | 128, 3 | 192, 7 | 224, 255};
        for (int is = 0; is < 4; is++) {
            x.locality(is);
            for (int n = 0; n < 4; n++) edge.due("foreseen(" + n + ") at " + is, x.foreseen(n), due[n] | 768);
        }
    }

    /** FORESEEN: "on paper, a START": the LOG as it is does not count, TIME, COUNTERS and what was APPROVED do. */
    private static void foreseenOnPaper() {
        StartLedger x = withKeys(1);
        x.policy(7, 0, 5);   // 0
        x.policy(5, 0, 2);   // 1
        x.policy(1, 0, 0);   // 2
        x.policy(6, 0, 0);   // 3
        approve(x, 0);
        for (int p = 0; p < 4; p++) x.seal(0, p, p);
        x.measure(0, 5);
        edge.due("seals(0)", x.seals(0), 15);
        edge.due("foreseen(0): the LOG is empty then", x.foreseen(0), 6);
        x.claimAs(0);
        String before = Seen.of(x);
        edge.due("foreseen(0): as told", x.foreseen(0), 15);
        edge.truth("it is on paper", Seen.of(x).equals(before));
        x.tick(3);
        edge.due("foreseen(0): TIME stays", x.foreseen(0), 13);
        counted(x, 0, 1);
        edge.due("foreseen(0): COUNTERS stay", x.foreseen(0), 9);
        for (int i = 1; i < 40; i++) x.claim(0, i);
        edge.due("foreseen(0): of a full CLAIM", x.foreseen(0), 9);
    }

    private static void acts() {
        twentyFourPolicies();
        numbersThatCannotBe();
        numbersOfB();
        numbersThatAreNought();
        partsThatAreNot();
        madeOfForty();
        madeOfItselfAlone();
        policyNowOfEach();
        tenSeals();
        sealOfOthers();
    }

    private static void whatHolds() {
        stateOfEachRegister();
        counterAtMost();
        localityOrMore();
        bothAndEither();
        yetOfTrees();
        timeAtMost();
        signedByItsKey();
        signedInWhatIsSigned();
        tillOfSigned();
        loggedOfEachRegister();
        outlookOfLogged();
        loggedInAFullLog();
        namesOfTrees();
        sameNames();
        oddNames();
        othersOfAsks();
    }

    private static void questions() {
        whyOfEach();
        whyOfEachSort();
        sealsThatCouldBe();
        sealsThatAreLost();
        lostTillTheNextStart();
        foreseenByEachLocality();
        foreseenThatLocality();
        foreseenOnPaper();
    }

    public static void main(String[] args) {
        acts();
        whatHolds();
        questions();
        edge.end("PolicyEdgesTest");
    }
}
