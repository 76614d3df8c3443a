import java.util.Arrays;

/**
 * Each sentence of Terms I and of promises 1 to 10, 29 to 34, 48 to 50 that names an edge, by a test of its own:
 * the sentence stands above it.
 */
public final class RegisterEdgesTest {
    private static final Edge edge = new Edge();
    private static final int LEAST = Integer.MIN_VALUE;
    private static final int MOST = Integer.MAX_VALUE;
    private static final int[] ODD = {0, 1, -1, 2, LEAST, MOST, LEAST + 1, MOST - 1, 1 << 25, -1 << 25, 1 << 24, 32767};

    private static StartLedger at(int locality) {
        StartLedger x = new StartLedger();
        x.locality(locality);
        return x;
    }

    private static int atFirst(int register) {
        return register < 6 ? 0 : -1;
    }

    // ---- Terms I

    /** "NUMBERS are ints, wrapping. MIX of a, b: .. x xor x shifted to the right by 15 (noughts from the left)." */
    private static void numbersWrap() {
        StartLedger x = at(1);
        int low = 0;
        int high = -1;
        for (int a : ODD) {
            for (int b : ODD) edge.due("MIX, by " + b, Check.mix(a, b), Edge.mixWide(a, b));
            low = Edge.mixWide(low, a);
            high = Edge.mixWide(high, a);
            edge.due("extend(0, " + a + ")", x.extend(0, a), low);
            edge.due("extend(7, " + a + ")", x.extend(7, a), high);
        }
    }

    /** "HASH of some numbers: .. (17 of none)." */
    private static void hashOfNone() {
        StartLedger x = new StartLedger();
        edge.due("digest(0)", x.digest(0), 17);
        x.extend(0, 3);
        edge.due("digest(0), whatever the registers are", x.digest(0), 17);
        edge.due("digest(1) is MIX of 17 and the first", x.digest(1), Edge.mixWide(17, x.register(0)));
    }

    /** "REGISTERS 0 .. 7: 0 at first; 6 and 7: -1." */
    private static void registersAtFirst() {
        StartLedger x = new StartLedger();
        for (int r = 0; r < 8; r++) edge.due("register(" + r + ") at first", x.register(r), atFirst(r));
    }

    /** "6, 7 can be EXTENDED from LOCALITY 1 on" */
    private static void extendedFromLocalityOne() {
        for (int n = 0; n < 4; n++) {
            for (int r = 0; r < 8; r++) {
                StartLedger x = at(n);
                int register = r;
                if (r >= 6 && n == 0) {
                    edge.refused(x, "measure(" + r + ") at 0", -4, () -> x.measure(register, 5));
                    edge.refusedAny(x, "extend(" + r + ") at 0", -4, () -> x.extend(register, 5));
                    continue;
                }
                int once = Edge.mixWide(atFirst(r), 5);
                edge.taken(x, "measure(" + r + ") at " + n, 1, () -> x.measure(register, 5));
                edge.due("register(" + r + ")", x.register(r), once);
                edge.taken(x, "extend(" + r + ") at " + n, Edge.mixWide(once, 5), () -> x.extend(register, 5));
            }
        }
    }

    /** "RESET (to 0) from 2 on; the others are not RESET." */
    private static void resetFromLocalityTwo() {
        for (int n = 0; n < 4; n++) {
            for (int r = 0; r < 8; r++) {
                StartLedger x = at(1);
                x.extend(r, 5);
                x.locality(n);
                int was = x.register(r);
                int register = r;
                if (r < 6) edge.refusedAny(x, "reset(" + r + ") at " + n, -1, () -> x.reset(register));
                else if (n < 2) edge.refusedAny(x, "reset(" + r + ") at " + n, -4, () -> x.reset(register));
                else edge.taken(x, "reset(" + r + ") at " + n, was, () -> x.reset(register));
                edge.due("register(" + r + ")", x.register(r), r >= 6 && n >= 2 ? 0 : was);
            }
        }
    }

    /** "RESET (to 0)", not to what they were at first: it is EXTENDED from there on. */
    private static void resetIsNotAsAtFirst() {
        StartLedger x = at(2);
        edge.taken(x, "reset(6), as at first", -1, () -> x.reset(6));
        edge.taken(x, "reset(6) once more", 0, () -> x.reset(6));
        edge.taken(x, "extend(6, 9)", Edge.mixWide(0, 9), () -> x.extend(6, 9));
        edge.due("7 is left alone", x.register(7), -1);
        edge.due("the LOG does not give it", x.wrong(0), 64);
    }

    /** "The LOG: REGISTER and NUMBER of each that was MEASURED (EXTENDED and written there), 40 at most." */
    private static void logOfForty() {
        StartLedger x = at(1);
        for (int i = 0; i < 40; i++) {
            int n = i;
            edge.taken(x, "measure() " + i, i + 1, () -> x.measure(n % 8, 1000 - n));
        }
        for (int r = 0; r < 8; r++) {
            int register = r;
            edge.refused(x, "measure(" + r + ") of a full LOG", -5, () -> x.measure(register, 1));
        }
        for (int i = 0; i < 40; i++) {
            edge.due("entry(0, " + i + ", 0)", x.entry(0, i, 0), i % 8);
            edge.due("entry(0, " + i + ", 1)", x.entry(0, i, 1), 1000 - i);
        }
        int due = Edge.mixWide(x.register(3), 1);
        edge.taken(x, "extend(3, 1) of a full LOG", due, () -> x.extend(3, 1));
        edge.due("it is not written", x.counts(3), 40);
        x.start();
        edge.taken(x, "measure(0, 1) behind a START", 1, () -> x.measure(0, 1));
    }

    /** "DIGEST of a set of REGISTERS (as bits): HASH of them by rising numbers." */
    private static void digestOfEachSet() {
        StartLedger x = at(1);
        for (int r = 0; r < 8; r++) x.extend(r, 77 * r + 1);
        for (int set = 0; set < 256; set++) {
            int due = 17;
            for (int r = 0; r < 8; r++) if ((set >> r & 1) == 1) due = Edge.mixWide(due, x.register(r));
            edge.due("digest(" + set + ")", x.digest(set), due);
        }
    }

    /** "TIME 0 .. 99,999; STARTS (1 at first)." */
    private static void timeAndStarts() {
        StartLedger x = new StartLedger();
        edge.due("TIME at first", x.counts(1), 0);
        edge.due("STARTS at first", x.counts(2), 1);
        for (int n = 2; n < 60; n++) {
            int starts = n;
            edge.taken(x, "start()", starts, x::start);
            edge.due("STARTS", x.counts(2), n);
        }
    }

    /** An object with all that a START could touch. */
    private static StartLedger full() {
        StartLedger x = at(3);
        for (int i = 0; i < 40; i++) x.measure(i % 8, i);
        x.claimAs(0);
        for (int k = 0; k < 5; k++) x.key(-1, k);
        for (int k = 0; k < 3; k++) x.load(0, k);
        x.swapOut(1);
        x.load(0, 3);
        x.swapOut(2);
        x.load(0, 4);
        x.policyNow(255);
        x.policy(6, 0, 0);
        x.seal(0, 9, 0);
        x.seal(2, 9, 1);
        for (int i = 0; i < 4; i++) x.open(i % 3, i);
        x.approve(0, 0, x.word(0, 2, 0));
        x.count(0, 3, x.word(0, 3, 3));
        x.tick(50);
        Edge.strain(x, 0, 3);
        return x;
    }

    /** "A START: REGISTERS are as at first, LOCALITY is 0, the LOG is empty, no KEY is LOADED or SWAPPED, no SESSION is open" */
    private static void whatAStartEnds() {
        StartLedger x = full();
        for (int r = 0; r < 8; r++) edge.truth("register(" + r + ") is not as at first", x.register(r) != atFirst(r));
        edge.taken(x, "start()", 2, x::start);
        for (int r = 0; r < 8; r++) edge.due("register(" + r + ")", x.register(r), atFirst(r));
        edge.due("LOCALITY", x.counts(0), 0);
        edge.due("the LOG", x.counts(3), 0);
        edge.due("its first entry", x.entry(0, 0, 1) + x.entry(0, 1, 1), 0);
        edge.due("SLOTS with KEYS", x.counts(6), 0);
        for (int k = 0; k < 5; k++) {
            edge.due("SLOT of KEY " + k, x.ofKey(k, 1), -1);
            edge.due("KEY " + k + " is not SWAPPED", x.ofKey(k, 2), 0);
        }
        edge.due("SESSIONS", x.counts(10), 0);
        for (int s = 0; s < 4; s++) edge.due("KEY of SESSION " + s, x.of(s, 0), -1);
    }

    /** "STRAIN stays; STARTS is 1 more", and what is not named stays, too. */
    private static void whatAStartLeaves() {
        StartLedger x = full();
        edge.due("it is LOCKED", x.locked(), 1);
        x.start();
        edge.due("STRAIN", x.fresh(0, 1), Float.floatToIntBits(3f));
        edge.due("it is still LOCKED", x.locked(), 1);
        x.load(0, 0);
        x.open(0, 0);
        edge.due("count() by a new SESSION", x.count(0, 0, x.word(0, 3, 0)), -3);
        int[] what = {1, 2, 4, 5, 7, 8, 9, 11, 15, 16};
        int[] due = {50, 2, 40, 5, 2, 2, 2, 5, 1, 1};
        for (int i = 0; i < what.length; i++) edge.due("counts(" + what[i] + ")", x.counts(what[i]), due[i]);
        for (int i = 0; i < 40; i++) edge.due("the CLAIM's entry " + i, x.entry(1, i, 1), i);
        edge.due("APPROVED by KEY 0", x.ofKey(0, 3), 1);
        edge.due("SEALS below KEY 0", x.ofKey(0, 5), 1);
    }

    /** "A CLAIM: a told log, 40 at most." */
    private static void claimOfForty() {
        StartLedger x = new StartLedger();
        for (int i = 0; i < 40; i++) {
            int n = i;
            edge.taken(x, "claim() " + i, i + 1, () -> x.claim(n % 8, n));
        }
        edge.refused(x, "claim() of a full CLAIM", -5, () -> x.claim(0, 0));
        edge.taken(x, "forge(39, 5) of a full CLAIM", 39, () -> x.forge(39, 5));
        edge.taken(x, "claimAs(0) of a full CLAIM", 0, () -> x.claimAs(0));
        edge.taken(x, "claim() of an empty one", 1, () -> x.claim(7, 0));
    }

    /** "It is RIGHT, if REGISTERS, as at first, EXTENDED by its entries .., are those that are (of 6, 7: whatever LOCALITY is)." */
    private static void rightWhateverLocalityIs() {
        StartLedger x = at(1);
        x.measure(6, 3);
        x.measure(7, 4);
        x.measure(5, 5);
        x.claimAs(0);
        for (int n = 0; n < 4; n++) {
            x.locality(n);
            edge.due("mended() at " + n, x.mended(), 0);
            edge.due("wrong(0) at " + n, x.wrong(0), 0);
            edge.due("wrong(1) at " + n, x.wrong(1), 0);
        }
        x.reset(6);
        edge.due("wrong(1) behind reset(6)", x.wrong(1), 64);
        edge.due("mended() behind reset(6)", x.mended(), -1);
        edge.due("extend(6, n), back to what the CLAIM gives", x.extend(6, Edge.numberFor(0, Edge.mixWide(-1, 3))),
            Edge.mixWide(-1, 3));
        edge.due("it is RIGHT by what is, not by how it came", x.mended(), 0);
    }

    /** "REFUSED by .. The first of these in that order." */
    private static void firstOfTheRefusals() {
        StartLedger x = new StartLedger();
        for (int i = 0; i < 40; i++) x.measure(0, i);
        for (int i = 0; i < 40; i++) x.claim(0, i);
        edge.refused(x, "measure(8), a full LOG: -1 ahead of -5", -1, () -> x.measure(8, 0));
        edge.refused(x, "measure(6), a full LOG at 0: -4 ahead of -5", -4, () -> x.measure(6, 0));
        edge.refused(x, "claim(8), a full CLAIM: -1 ahead of -5", -1, () -> x.claim(8, 0));
        edge.refusedAny(x, "reset(5) at 0: -1 ahead of -4", -1, () -> x.reset(5));
        edge.refusedAny(x, "extend(8) at 0: -1 ahead of -4", -1, () -> x.extend(8, 0));
    }

    /** "Where any int may be told, STATUS alone tells whether it was REFUSED (0 is told then)." */
    private static void anyIntMayBeTold() {
        StartLedger x = at(2);
        for (int told = -8; told <= 0; told++) {
            int due = told;
            edge.taken(x, "extend() to " + told, told, () -> x.extend(6, Edge.numberFor(x.register(6), due)));
            edge.taken(x, "reset() from " + told, told, () -> x.reset(6));
            x.claimAs(1);
            x.claim(0, told);
            edge.taken(x, "forge() of " + told, told, () -> x.forge(0, 3));
        }
        edge.refusedAny(x, "extend(8, 0)", -1, () -> x.extend(8, 0));
        edge.refusedAny(x, "reset(8)", -1, () -> x.reset(8));
        edge.refusedAny(x, "forge(1, 0)", -2, () -> x.forge(1, 0));
    }

    // ---- promises 3 to 10

    /** Promise 3: "A LOCALITY: what it was. -1." */
    private static void localityOfEach() {
        for (int from = 0; from < 4; from++) {
            for (int to = 0; to < 4; to++) {
                StartLedger x = at(from);
                int n = to;
                edge.taken(x, "locality(" + to + ") at " + from, from, () -> x.locality(n));
                edge.due("counts(0)", x.counts(0), to);
            }
            StartLedger x = at(from);
            for (int n : Edge.outside(0, 3)) edge.refused(x, "locality(" + n + ")", -1, () -> x.locality(n));
        }
    }

    /** Promise 4: "TICKS, n 1 .. 100: TIME then. -1" */
    private static void tickOfOneToAHundred() {
        StartLedger x = new StartLedger();
        edge.taken(x, "tick(1)", 1, () -> x.tick(1));
        edge.taken(x, "tick(100)", 101, () -> x.tick(100));
        edge.taken(x, "tick(99)", 200, () -> x.tick(99));
        for (int n : Edge.outside(1, 100)) edge.refused(x, "tick(" + n + ")", -1, () -> x.tick(n));
    }

    /** Promise 4: "-4 (above 99,999)". */
    private static void tickToTheLast() {
        StartLedger x = new StartLedger();
        for (int i = 0; i < 999; i++) x.tick(100);
        edge.due("TIME", x.counts(1), 99_900);
        edge.refused(x, "tick(100) at 99,900", -4, () -> x.tick(100));
        edge.refused(x, "tick(101) at 99,900: -1 ahead of -4", -1, () -> x.tick(101));
        edge.taken(x, "tick(99) at 99,900", 99_999, () -> x.tick(99));
        edge.refused(x, "tick(1) at 99,999", -4, () -> x.tick(1));
        edge.refused(x, "tick(0) at 99,999: -1 ahead of -4", -1, () -> x.tick(0));
        edge.refused(x, "tick(MOST) at 99,999: -1 ahead of -4", -1, () -> x.tick(MOST));
        x.undo();
        edge.taken(x, "tick(98) at 99,900", 99_998, () -> x.tick(98));
        edge.taken(x, "tick(1) at 99,998", 99_999, () -> x.tick(1));
    }

    /** Promises 5, 6: "-1 (REGISTER)"; 7: "-1 (not 6, 7)"; 8: "-1 (REGISTER)". */
    private static void registersThatCannotBe() {
        StartLedger x = at(3);
        x.measure(0, 1);
        x.claim(0, 1);
        for (int r : Edge.outside(0, 7)) {
            edge.refused(x, "measure(" + r + ", 1)", -1, () -> x.measure(r, 1));
            edge.refusedAny(x, "extend(" + r + ", 1)", -1, () -> x.extend(r, 1));
            edge.refused(x, "claim(" + r + ", 1)", -1, () -> x.claim(r, 1));
        }
        for (int r : Edge.outside(6, 7)) edge.refusedAny(x, "reset(" + r + ")", -1, () -> x.reset(r));
    }

    /** Promise 8: an entry of 6, 7 is told whatever LOCALITY is, and nothing is EXTENDED by it. */
    private static void claimOfEachRegister() {
        StartLedger x = new StartLedger();
        for (int r = 0; r < 8; r++) {
            int register = r;
            edge.taken(x, "claim(" + r + ")", r + 1, () -> x.claim(register, ODD[register]));
            edge.due("register(" + r + ")", x.register(r), atFirst(r));
            edge.due("entry(1, " + r + ", 0)", x.entry(1, r, 0), r);
            edge.due("entry(1, " + r + ", 1)", x.entry(1, r, 1), ODD[r]);
        }
    }

    /** Promise 9: "The CLAIM is the LOG as it is (what 0), empty (1): how many entries. -1." */
    private static void claimAsOfEach() {
        StartLedger x = new StartLedger();
        edge.taken(x, "claimAs(0) of an empty LOG", 0, () -> x.claimAs(0));
        edge.taken(x, "claimAs(1) of an empty CLAIM", 0, () -> x.claimAs(1));
        x.claim(3, 3);
        for (int what : Edge.outside(0, 1)) edge.refused(x, "claimAs(" + what + ")", -1, () -> x.claimAs(what));
        edge.taken(x, "claimAs(0) of an empty LOG", 0, () -> x.claimAs(0));
        for (int i = 0; i < 40; i++) x.measure(5, i);
        edge.taken(x, "claimAs(0) of a full LOG", 40, () -> x.claimAs(0));
        edge.due("entry(1, 39, 1)", x.entry(1, 39, 1), 39);
        edge.refused(x, "claim() behind it", -5, () -> x.claim(0, 0));
        edge.taken(x, "claimAs(1)", 0, () -> x.claimAs(1));
        edge.due("the LOG stays", x.counts(3), 40);
    }

    /** Promise 10: "Entry i of the CLAIM has another NUMBER: what it was (any int). -2." */
    private static void forgeOfEach() {
        StartLedger x = new StartLedger();
        x.measure(0, 1);
        edge.refusedAny(x, "forge(0) of an empty CLAIM", -2, () -> x.forge(0, 1));
        for (int i = 0; i < 40; i++) {
            int n = i;
            edge.refusedAny(x, "forge(" + i + ") of as many entries", -2, () -> x.forge(n, 1));
            x.claim(i % 8, i);
            edge.taken(x, "forge(" + i + ")", i, () -> x.forge(n, -n));
        }
        for (int i : Edge.outside(0, 39)) edge.refusedAny(x, "forge(" + i + ")", -2, () -> x.forge(i, 1));
        for (int i = 0; i < 40; i++) {
            edge.due("its REGISTER stays", x.entry(1, i, 0), i % 8);
            edge.due("its NUMBER", x.entry(1, i, 1), -i);
        }
        x.claimAs(1);
        edge.refusedAny(x, "forge(0) of a CLAIM emptied", -2, () -> x.forge(0, 1));
    }

    // ---- promises 29 to 34

    /** Promises 29, 30: "0 for others." */
    private static void othersOfRegisterAndDigest() {
        StartLedger x = at(1);
        for (int r = 0; r < 8; r++) x.extend(r, r);
        for (int r : Edge.outside(0, 7)) edge.due("register(" + r + ")", x.register(r), 0);
        for (int set : Edge.outside(0, 255)) edge.due("digest(" + set + ")", x.digest(set), 0);
    }

    /** Promise 31: "by the first n entries of the LOG (what 0), of the CLAIM (1), from as at first. 0 for others." */
    private static void replayOfEach() {
        StartLedger x = at(1);
        int[] due = new int[8];
        for (int r = 0; r < 8; r++) due[r] = atFirst(r);
        for (int i = 0; i < 40; i++) {
            x.measure(i * 3 % 8, i);
            x.claim(i * 3 % 8, i + 1);
        }
        x.extend(0, 9);
        x.start();
        for (int r = 0; r < 8; r++) {
            edge.due("replay(0, 0, " + r + ") of an empty LOG", x.replay(0, 0, r), due[r]);
            edge.due("replay(0, 1, " + r + ") of an empty LOG", x.replay(0, 1, r), 0);
        }
        for (int n = 0; n <= 40; n++) {
            for (int r = 0; r < 8; r++) edge.due("replay(1, " + n + ", " + r + ")", x.replay(1, n, r), due[r]);
            due[n * 3 % 8] = Edge.mixWide(due[n * 3 % 8], n + 1);
        }
        for (int n : Edge.outside(0, 40)) edge.due("replay(1, " + n + ", 7)", x.replay(1, n, 7), 0);
        for (int what : Edge.outside(0, 1)) edge.due("replay(" + what + ", 0, 7)", x.replay(what, 0, 7), 0);
        for (int r : Edge.outside(0, 7)) edge.due("replay(1, 0, " + r + ")", x.replay(1, 0, r), 0);
    }

    /** Promise 32: "0 for others." */
    private static void othersOfEntry() {
        StartLedger x = new StartLedger();
        for (int i = 0; i < 3; i++) x.measure(5, 7);
        for (int i = 0; i < 2; i++) x.claim(4, 8);
        for (int what = 0; what < 2; what++) {
            for (int i : Edge.outside(0, 2)) edge.due("entry(0, " + i + ", ..)", x.entry(0, i, what), 0);
            for (int i : Edge.outside(0, 1)) edge.due("entry(1, " + i + ", ..)", x.entry(1, i, what), 0);
            for (int which : Edge.outside(0, 1)) edge.due("entry(" + which + ", ..)", x.entry(which, 0, what), 0);
            for (int w : Edge.outside(0, 1)) edge.due("entry(.., " + w + ")", x.entry(what, 0, w), 0);
        }
        x.claimAs(1);
        edge.due("entry(1, 0, 0) of a CLAIM emptied", x.entry(1, 0, 0), 0);
        edge.due("entry(1, 0, 1) of a CLAIM emptied", x.entry(1, 0, 1), 0);
    }

    /** Promise 33: "REGISTERS that the LOG (what 0), the CLAIM (1) does not give, as bits. NONE for others." */
    private static void wrongOfEach() {
        StartLedger x = at(2);
        for (int r = 0; r < 8; r++) {
            x.extend(r, 1);
            edge.due("wrong(0)", x.wrong(0), (2 << r) - 1);
            edge.due("wrong(1)", x.wrong(1), (2 << r) - 1);
        }
        for (int r = 0; r < 8; r++) {
            x.claim(r, 1);
            edge.due("wrong(1)", x.wrong(1), 255 & -(2 << r));
            edge.due("wrong(0)", x.wrong(0), 255);
        }
        for (int what : Edge.outside(0, 1)) edge.due("wrong(" + what + ")", x.wrong(what), -1);
    }

    private static void claims(StartLedger x, int... entries) {
        x.claimAs(1);
        for (int i = 0; i + 1 < entries.length; i += 2) x.claim(entries[i], entries[i + 1]);
    }

    /** Promise 34: "0 it is". */
    private static void mendedNeedNotBe() {
        StartLedger x = new StartLedger();
        edge.due("an empty CLAIM of an empty LOG", x.mended(), 0);
        int idle = Edge.numberFor(0, 0);
        claims(x, 0, idle, 1, idle);
        edge.due("RIGHT ahead of an entry that could be left out", x.mended(), 0);
        for (int i = 0; i < 40; i++) x.measure(i % 6, i);
        x.claimAs(0);
        edge.due("a full CLAIM", x.mended(), 0);
    }

    /** Promise 34: "100 and i: entry i left out", the first by i. */
    private static void mendedByLeavingOut() {
        for (int i = 0; i < 40; i++) {
            StartLedger x = new StartLedger();
            for (int n = 0; n < 39; n++) x.measure(0, n);
            x.claimAs(1);
            for (int n = 0; n < 40; n++) x.claim(n == i ? 1 : 0, n == i ? 500 : n < i ? n : n - 1);
            edge.due("entry " + i + " left out", x.mended(), 100 + i);
        }
        StartLedger x = new StartLedger();
        x.measure(2, 5);
        claims(x, 2, 5, 2, 5);
        edge.due("either could be left out", x.mended(), 100);
        claims(x, 3, 5);
        edge.due("left out it is not RIGHT", x.mended(), 302);
        x.start();
        claims(x, 3, 5);
        edge.due("the only one left out", x.mended(), 100);
        claims(x, 3, 5, 3, 5);
        edge.due("two can't be left out", x.mended(), -1);
    }

    /** Promise 34: "200 and i: entries i and i and 1 exchanged", the first by i. */
    private static void mendedByExchanging() {
        for (int i = 0; i < 39; i++) {
            StartLedger x = new StartLedger();
            for (int n = 0; n < 40; n++) x.measure(5, n);
            x.claimAs(0);
            x.forge(i, i + 1);
            x.forge(i + 1, i);
            edge.due("entries " + i + " and the next exchanged", x.mended(), 200 + i);
        }
        StartLedger x = new StartLedger();
        x.measure(0, 1);
        x.measure(0, 2);
        x.measure(0, 3);
        claims(x, 0, 3, 0, 2, 0, 1);
        edge.due("the last can't be exchanged with the first", x.mended(), -1);
        claims(x, 0, 1, 1, 9, 0, 2, 0, 3);
        edge.due("left out, not exchanged", x.mended(), 101);
    }

    /** Promise 34: "300 and i: entry i of another REGISTER's, by 10 times i and the REGISTER". */
    private static void mendedByAnotherRegister() {
        for (int i = 0; i < 40; i++) {
            for (int to = 0; to < 8; to++) {
                int from = (to + 1 + i % 7) % 8;
                StartLedger x = at(1);
                for (int n = 0; n < 40; n++) x.measure(n == i ? to : n % 8, n);
                x.claimAs(1);
                for (int n = 0; n < 40; n++) x.claim(n == i ? from : n % 8, n);
                edge.due("entry " + i + " of " + to + "'s", x.mended(), 300 + 10 * i + to);
            }
        }
        StartLedger x = new StartLedger();
        x.measure(0, 7);
        x.measure(1, 7);
        claims(x, 1, 7, 1, 7);
        edge.due("either could be another's: the first by i", x.mended(), 300);
    }

    /**
     * Promise 34: "the first of these in this order". Numbers that leave a register as it is make more than one
     * mending right; without them no two kinds of mending are.
     */
    private static void mendedByTheFirst() {
        StartLedger x = new StartLedger();
        x.measure(0, 11);
        int idle = Edge.numberFor(x.register(0), x.register(0));
        claims(x, 0, idle, 0, 11);
        edge.due("left out ahead of exchanged", x.mended(), 100);
        x.start();
        x.measure(0, 12);
        x.measure(1, 13);
        idle = Edge.numberFor(0, 0);
        claims(x, 1, 13, 0, 12, 2, idle);
        edge.due("another's is RIGHT", x.mended(), 0);
        claims(x, 1, 13, 0, 12, 0, idle);
        edge.due("left out ahead of another's", x.mended(), 102);
    }

    /** The same, of an exchange and another REGISTER's: E leaves 1 as it is behind C, and mends 0 behind B, A. */
    private static void mendedByExchangeFirst() {
        int[] found = exchangeOrMove();
        StartLedger x = new StartLedger();
        x.measure(1, found[2]);
        x.measure(0, found[0]);
        x.measure(0, found[1]);
        claims(x, 1, found[2], 0, found[1], 0, found[0], 1, found[3]);
        edge.due("exchanged ahead of another's", x.mended(), 201);
        claims(x, 1, found[2], 0, found[1], 0, found[0], 0, found[3]);
        edge.due("another's is RIGHT as well", x.mended(), 0);
    }

    /** A, B, C, E as above, by a search that meets in the middle. */
    private static int[] exchangeOrMove() {
        int many = 1 << 18;
        long[] idles = new long[many];
        for (int c = 0; c < many; c++) {
            int behind = Check.mix(0, c);
            idles[c] = (long) Edge.numberFor(behind, behind) << 32 | c;
        }
        Arrays.sort(idles);
        for (int a = 1; a < 4000; a++) {
            for (int b = a + 1; b < 4000; b++) {
                int right = Check.mix(Check.mix(0, a), b);
                int wrong = Check.mix(Check.mix(0, b), a);
                int e = numberByTable(wrong, right);
                int at = -1 - Arrays.binarySearch(idles, (long) e << 32 | 0xFFFFFFFFL) - 1;
                if (at >= 0 && (int) (idles[at] >> 32) == e) return new int[] {a, b, (int) idles[at], e};
            }
        }
        throw new IllegalStateException("nothing was found");
    }

    private static int numberByTable(int from, int to) {
        int x = to ^ (to >>> 15) ^ (to >>> 30);
        return Integer.rotateRight((x - 97) * 244_002_641 ^ from, 7);
    }

    /** Promise 34: "NONE: by none." */
    private static void mendedByNone() {
        StartLedger x = new StartLedger();
        x.measure(0, 1);
        x.claimAs(1);
        edge.due("an empty CLAIM has nothing to mend", x.mended(), -1);
        x.start();
        x.extend(0, 1);
        edge.due("nor has one of what was not written", x.mended(), -1);
        x.claim(0, 1);
        edge.due("but told it is RIGHT", x.mended(), 0);
        x.extend(1, 1);
        x.extend(2, 1);
        edge.due("two are missing", x.mended(), -1);
        edge.due("it is on paper", x.counts(4), 1);
    }

    // ---- promises 48 to 50

    /** AGE: "how many entries of the LOG are behind the last one of it (all, if there is none)"; promise 48: "NONE." */
    private static void ageOfEach() {
        StartLedger x = at(1);
        for (int r = 0; r < 8; r++) edge.due("age(" + r + ") of an empty LOG", x.age(r), 0);
        x.measure(7, 1);
        for (int i = 1; i < 40; i++) {
            edge.due("age(7)", x.age(7), i - 1);
            edge.due("age(3), not there", x.age(3), i);
            x.measure(0, i);
            edge.due("age(0)", x.age(0), 0);
        }
        edge.due("age(7) of a full LOG", x.age(7), 39);
        edge.due("age(3) of a full LOG", x.age(3), 40);
        x.extend(3, 1);
        edge.due("what is not written is no entry", x.age(3), 40);
        for (int r : Edge.outside(0, 7)) edge.due("age(" + r + ")", x.age(r), -1);
    }

    /** FRESH: "all 1 by (AGE and 1) of its REGISTERS, from the lowest on, together, as floats, by how many (0 of none)." */
    private static void freshOfEachSet() {
        StartLedger x = at(1);
        int[] order = {6, 0, 0, 3, 0, 5, 1, 0, 0, 4, 2, 0};
        for (int i = 0; i < order.length; i++) x.measure(order[i], i);
        boolean orderMatters = false;
        for (int set = 0; set < 256; set++) {
            float up = 0;
            float down = 0;
            for (int r = 0; r < 8; r++) {
                if ((set >> r & 1) == 1) up += 1f / (x.age(r) + 1);
                if ((set >> 7 - r & 1) == 1) down += 1f / (x.age(7 - r) + 1);
            }
            orderMatters |= up != down;
            float due = set == 0 ? 0f : up / Integer.bitCount(set);
            edge.due("fresh(" + set + ", 0)", x.fresh(set, 0), Float.floatToIntBits(due));
        }
        edge.truth("from the lowest on: the order is to be seen", orderMatters);
        edge.due("fresh(0, 0), of none", x.fresh(0, 0), 0);
    }

    /** Promise 49: "STRAIN (1; the set is not asked) .. NONE for others." */
    private static void othersOfFresh() {
        StartLedger x = full();
        for (int set : Edge.outside(0, 255)) {
            edge.due("fresh(" + set + ", 0)", x.fresh(set, 0), -1);
            edge.due("fresh(" + set + ", 1)", x.fresh(set, 1), Float.floatToIntBits(3f));
        }
        for (int what : Edge.outside(0, 1)) {
            edge.due("fresh(1, " + what + ")", x.fresh(1, what), -1);
            edge.due("fresh(-1, " + what + ")", x.fresh(-1, what), -1);
        }
    }

    /** Promise 49: STRAIN by its bits down to the least floats there are, TICK by TICK. */
    private static void strainToItsEnd() {
        StartLedger x = full();
        float strain = 3f;
        for (int i = 0; i < 390; i++) {
            edge.due("STRAIN behind " + i, x.fresh(0, 1), Float.floatToIntBits(strain));
            strain = strain * 0.75f;
            x.tick(1);
        }
        edge.truth("it came below the least that is normal", strain < Float.MIN_NORMAL && strain > 0f);
    }

    private static long meanOf(int many, int... numbers) {
        StartLedger x = new StartLedger();
        for (int i = 0; i < many; i++) x.measure(i % 6, numbers[i % numbers.length]);
        return x.mean();
    }

    /** MEAN: "all entries' NUMBERS of the LOG together by how many they are, as doubles (0 of none)." */
    private static void meanOfEdges() {
        edge.due("of none", meanOf(0, 1), 0L);
        edge.due("of a nought", meanOf(1, 0), 0L);
        edge.due("of 40 of the most", meanOf(40, MOST), Double.doubleToLongBits(2147483647.0));
        edge.due("of 40 of the least", meanOf(40, LEAST), Double.doubleToLongBits(-2147483648.0));
        edge.due("of most and least", meanOf(40, MOST, LEAST), Double.doubleToLongBits(-0.5));
        edge.due("of 1, -1", meanOf(2, 1, -1), 0L);
        for (int many = 1; many <= 40; many++) {
            edge.due("of 1 and noughts", meanOf(many, first(many, 1)), Double.doubleToLongBits(1.0 / many));
            edge.due("of -1 and noughts", meanOf(many, first(many, -1)), Double.doubleToLongBits(-1.0 / many));
            double most = (double) MOST / many;
            edge.due("of the most and noughts", meanOf(many, first(many, MOST)), Double.doubleToLongBits(most));
        }
        StartLedger x = new StartLedger();
        x.claim(0, 5);
        x.extend(0, 5);
        edge.due("neither a CLAIM nor what is not written counts", x.mean(), 0L);
        x.measure(0, 4);
        for (int i = 0; i < 39; i++) x.measure(1, 1000);
        x.start();
        edge.due("behind a START", x.mean(), 0L);
        x.measure(0, 6);
        edge.due("what was ahead of a START does not count", x.mean(), Double.doubleToLongBits(6.0));
    }

    private static int[] first(int many, int number) {
        int[] numbers = new int[many];
        numbers[0] = number;
        return numbers;
    }

    private static void terms() {
        numbersWrap();
        hashOfNone();
        registersAtFirst();
        extendedFromLocalityOne();
        resetFromLocalityTwo();
        resetIsNotAsAtFirst();
        logOfForty();
        digestOfEachSet();
        timeAndStarts();
        whatAStartEnds();
        whatAStartLeaves();
        claimOfForty();
        rightWhateverLocalityIs();
        firstOfTheRefusals();
        anyIntMayBeTold();
    }

    private static void acts() {
        localityOfEach();
        tickOfOneToAHundred();
        tickToTheLast();
        registersThatCannotBe();
        claimOfEachRegister();
        claimAsOfEach();
        forgeOfEach();
    }

    private static void questions() {
        othersOfRegisterAndDigest();
        replayOfEach();
        othersOfEntry();
        wrongOfEach();
        mendedNeedNotBe();
        mendedByLeavingOut();
        mendedByExchanging();
        mendedByAnotherRegister();
        mendedByTheFirst();
        mendedByExchangeFirst();
        mendedByNone();
        ageOfEach();
        freshOfEachSet();
        othersOfFresh();
        strainToItsEnd();
        meanOfEdges();
    }

    public static void main(String[] args) {
        terms();
        acts();
        questions();
        edge.end("RegisterEdgesTest");
    }
}
