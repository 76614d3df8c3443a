/** Promises 1 to 10, 29 to 34, 48 to 50: registers, the log, the claim, and what is asked of them. */
public final class RegistersTest {
    private static final Check check = new Check();

    private static StartLedger at(int locality) {
        StartLedger x = new StartLedger();
        x.locality(locality);
        return x;
    }

    /** Promise 1. */
    private static void aNewObject() {
        StartLedger x = new StartLedger();
        for (int r = 0; r < 8; r++) check.due("1: register(" + r + ")", x.register(r), r < 6 ? 0 : -1);
        for (int what = 0; what < 25; what++) check.due("1: counts(" + what + ")", x.counts(what), what == 2 ? 1 : 0);
        check.due("1: status()", x.status(), 0);
        check.due("1: fresh(0, 1)", x.fresh(0, 1), 0);
        check.due("1: wrong(0)", x.wrong(0), 0);
        check.due("1: wrong(1)", x.wrong(1), 0);
        check.due("1: undo()", x.undo(), -4);
        check.due("1: back(0)", x.back(0), -4);
    }

    /** Promise 2. */
    private static void start() {
        StartLedger x = at(2);
        x.tick(5);
        x.measure(0, 1);
        x.measure(7, 2);
        x.claimAs(0);
        x.key(-1, 9);
        x.key(-1, 8);
        x.load(0, 0);
        x.load(0, 1);
        x.swapOut(1);
        x.policyNow(1);
        x.seal(0, 3, 0);
        x.open(0, 4);
        x.count(0, 0, x.word(0, 3, 0));
        x.approve(0, 0, x.word(0, 2, 0));
        x.renew(0, 5, 0);
        check.act(x, "2: start()", x.start(), 2, 0);
        for (int r = 0; r < 8; r++) check.due("2: register(" + r + ")", x.register(r), r < 6 ? 0 : -1);
        int[] due = {0, 5, 2, 0, 2, 2, 0, 1, 1, 1, 0, 1, 1, 0, 0, 0, 1};
        for (int what = 0; what < due.length; what++) check.due("2: counts(" + what + ")", x.counts(what), due[what]);
        check.due("2: no key is loaded", x.ofKey(0, 1), -1);
        check.due("2: no key is swapped", x.ofKey(1, 2), 0);
        check.due("2: its context is of another start", x.swapIn(0), -4);
        check.due("2: strain stays", x.fresh(0, 1), Float.floatToIntBits(1f));
        check.due("2: start()", x.start(), 3);
    }

    /** Promise 3. */
    private static void locality() {
        StartLedger x = new StartLedger();
        check.act(x, "3: locality(3)", x.locality(3), 0, 0);
        check.act(x, "3: locality(3)", x.locality(3), 3, 0);
        check.act(x, "3: locality(0)", x.locality(0), 3, 0);
        check.refused(x, "3: locality(4)", x.locality(4), -1);
        check.refused(x, "3: locality(-1)", x.locality(-1), -1);
        check.refused(x, "3: locality(least)", x.locality(Integer.MIN_VALUE), -1);
        check.due("3: counts(0)", x.counts(0), 0);
    }

    /** Promise 4. */
    private static void tick() {
        StartLedger x = new StartLedger();
        check.act(x, "4: tick(1)", x.tick(1), 1, 0);
        check.act(x, "4: tick(100)", x.tick(100), 101, 0);
        check.refused(x, "4: tick(0)", x.tick(0), -1);
        check.refused(x, "4: tick(101)", x.tick(101), -1);
        check.refused(x, "4: tick(-1)", x.tick(-1), -1);
        check.refused(x, "4: tick(most)", x.tick(Integer.MAX_VALUE), -1);
        check.due("4: counts(1)", x.counts(1), 101);
        for (int i = 0; i < 998; i++) x.tick(100);
        check.refused(x, "4: tick(99) at 99,901", x.tick(99), -4);
        check.act(x, "4: tick(98) at 99,901", x.tick(98), 99_999, 0);
        check.refused(x, "4: tick(1) at 99,999", x.tick(1), -4);
        StartLedger y = new StartLedger();
        y.key(-1, 0);
        y.load(0, 0);
        y.open(0, 0);
        y.renew(0, 0, y.word(0, 4, 0) + 1);
        y.renew(0, 0, y.word(0, 4, 0) + 1);
        y.tick(3);
        check.due("4: strain by 3 ticks", y.fresh(0, 1), Float.floatToIntBits(2f * 0.75f * 0.75f * 0.75f));
        float strain = 2f * 0.75f * 0.75f * 0.75f;
        for (int i = 0; i < 4; i++) {
            y.tick(100);
            for (int n = 0; n < 100; n++) strain *= 0.75f;
            check.due("4: strain by 100 ticks more", y.fresh(0, 1), Float.floatToIntBits(strain));
        }
    }

    /** Promise 5. */
    private static void measure() {
        StartLedger x = new StartLedger();
        check.act(x, "5: measure(0, 5)", x.measure(0, 5), 1, 0);
        check.due("5: register(0)", x.register(0), -1968099455);
        check.due("5: entry(0, 0, 0)", x.entry(0, 0, 0), 0);
        check.due("5: entry(0, 0, 1)", x.entry(0, 0, 1), 5);
        check.refused(x, "5: measure(-1, 0)", x.measure(-1, 0), -1);
        check.refused(x, "5: measure(8, 0)", x.measure(8, 0), -1);
        check.refused(x, "5: measure(6, 0)", x.measure(6, 0), -4);
        check.refused(x, "5: measure(7, 0)", x.measure(7, 0), -4);
        x.locality(1);
        check.act(x, "5: measure(6, 1)", x.measure(6, 1), 2, 0);
        check.due("5: register(6)", x.register(6), 1175134759);
        check.act(x, "5: measure(7, -1)", x.measure(7, -1), 3, 0);
        check.due("5: register(7)", x.register(7), Check.mix(-1, -1));
        check.act(x, "5: measure(5, least)", x.measure(5, Integer.MIN_VALUE), 4, 0);
        for (int i = 5; i <= 40; i++) check.due("5: measure(1, i)", x.measure(1, i), i);
        int before = x.register(1);
        check.refused(x, "5: measure(1, 0) of a full log", x.measure(1, 0), -5);
        check.due("5: what is refused changes nothing", x.register(1), before);
        x.locality(0);
        check.refused(x, "5: -4 comes ahead of -5", x.measure(6, 0), -4);
        check.refused(x, "5: -1 comes ahead of -5", x.measure(9, 0), -1);
    }

    /** Promise 6. */
    private static void extend() {
        StartLedger x = new StartLedger();
        check.act(x, "6: extend(2, 4)", x.extend(2, 4), 1861468039, 0);
        check.due("6: register(2)", x.register(2), 1861468039);
        check.due("6: it is not written", x.counts(3), 0);
        check.due("6: wrong(0)", x.wrong(0), 4);
        check.act(x, "6: extend(5, 0)", x.extend(5, 0), Check.mix(0, 0), 0);
        check.refusedAny(x, "6: extend(8, 4)", x.extend(8, 4), -1);
        check.refusedAny(x, "6: extend(-1, 4)", x.extend(-1, 4), -1);
        check.refusedAny(x, "6: extend(6, 4)", x.extend(6, 4), -4);
        check.due("6: register(6)", x.register(6), -1);
        x.locality(1);
        check.act(x, "6: extend(6, 4)", x.extend(6, 4), Check.mix(-1, 4), 0);
        check.act(x, "6: extend(7, 4)", x.extend(7, 4), Check.mix(-1, 4), 0);
    }

    /** Promise 7. */
    private static void reset() {
        StartLedger x = at(1);
        x.extend(6, 3);
        int was = x.register(6);
        check.refusedAny(x, "7: reset(6) at 1", x.reset(6), -4);
        check.refusedAny(x, "7: reset(5)", x.reset(5), -1);
        check.refusedAny(x, "7: reset(8)", x.reset(8), -1);
        check.refusedAny(x, "7: reset(-1)", x.reset(-1), -1);
        x.locality(2);
        check.refusedAny(x, "7: reset(0)", x.reset(0), -1);
        check.act(x, "7: reset(6)", x.reset(6), was, 0);
        check.due("7: register(6)", x.register(6), 0);
        x.locality(3);
        check.act(x, "7: reset(7)", x.reset(7), -1, 0);
        check.due("7: register(7)", x.register(7), 0);
        check.due("7: the log does not give them", x.wrong(0), 192);
    }

    /** Promise 8. */
    private static void claim() {
        StartLedger x = new StartLedger();
        check.act(x, "8: claim(7, 3)", x.claim(7, 3), 1, 0);
        check.due("8: entry(1, 0, 0)", x.entry(1, 0, 0), 7);
        check.due("8: entry(1, 0, 1)", x.entry(1, 0, 1), 3);
        check.due("8: register(7)", x.register(7), -1);
        check.refused(x, "8: claim(8, 0)", x.claim(8, 0), -1);
        check.refused(x, "8: claim(-1, 0)", x.claim(-1, 0), -1);
        for (int i = 2; i <= 40; i++) check.due("8: claim(0, i)", x.claim(0, i), i);
        check.refused(x, "8: claim(0, 0) of a full claim", x.claim(0, 0), -5);
        check.refused(x, "8: -1 comes ahead of -5", x.claim(8, 0), -1);
        check.due("8: counts(4)", x.counts(4), 40);
    }

    /** Promise 9. */
    private static void claimAs() {
        StartLedger x = new StartLedger();
        x.measure(1, 11);
        x.measure(2, 22);
        x.claim(3, 33);
        check.act(x, "9: claimAs(0)", x.claimAs(0), 2, 0);
        check.due("9: entry(1, 1, 0)", x.entry(1, 1, 0), 2);
        check.due("9: entry(1, 1, 1)", x.entry(1, 1, 1), 22);
        x.measure(4, 44);
        x.forge(0, 7);
        check.due("9: the claim is a copy", x.counts(4), 2);
        check.due("9: the log is not forged", x.entry(0, 0, 1), 11);
        check.refused(x, "9: claimAs(2)", x.claimAs(2), -1);
        check.refused(x, "9: claimAs(-1)", x.claimAs(-1), -1);
        check.due("9: counts(4)", x.counts(4), 2);
        check.act(x, "9: claimAs(1)", x.claimAs(1), 0, 0);
        check.due("9: counts(4)", x.counts(4), 0);
    }

    /** Promise 10. */
    private static void forge() {
        StartLedger x = new StartLedger();
        check.refusedAny(x, "10: forge(0, 1)", x.forge(0, 1), -2);
        x.claim(1, 5);
        x.claim(2, 6);
        check.act(x, "10: forge(1, -9)", x.forge(1, -9), 6, 0);
        check.act(x, "10: forge(1, 7)", x.forge(1, 7), -9, 0);
        check.due("10: entry(1, 1, 1)", x.entry(1, 1, 1), 7);
        check.due("10: entry(1, 1, 0)", x.entry(1, 1, 0), 2);
        check.due("10: entry(1, 0, 1)", x.entry(1, 0, 1), 5);
        check.refusedAny(x, "10: forge(2, 1)", x.forge(2, 1), -2);
        check.refusedAny(x, "10: forge(-1, 1)", x.forge(-1, 1), -2);
        check.refusedAny(x, "10: forge(most, 1)", x.forge(Integer.MAX_VALUE, 1), -2);
    }

    /** Promises 29, 30. */
    private static void registerAndDigest() {
        StartLedger x = new StartLedger();
        x.measure(0, 5);
        x.measure(0, 9);
        x.measure(1, 7);
        check.due("29: register(0)", x.register(0), 2097794816);
        check.due("29: register(6)", x.register(6), -1);
        check.due("29: register(8)", x.register(8), 0);
        check.due("29: register(-1)", x.register(-1), 0);
        check.due("30: digest(3)", x.digest(3), -1701476684);
        check.due("30: digest(0)", x.digest(0), 17);
        check.due("30: digest(128)", x.digest(128), Check.hash(-1));
        check.due("30: digest(255)", x.digest(255), Check.hash(x.register(0), x.register(1), 0, 0, 0, 0, -1, -1));
        check.due("30: digest(256)", x.digest(256), 0);
        check.due("30: digest(-1)", x.digest(-1), 0);
    }

    /** Promise 31. */
    private static void replay() {
        StartLedger x = at(1);
        x.measure(0, 5);
        x.measure(6, 8);
        x.measure(0, 9);
        x.extend(0, 1);
        x.claim(6, 2);
        check.due("31: replay(0, 0, 0)", x.replay(0, 0, 0), 0);
        check.due("31: replay(0, 0, 6)", x.replay(0, 0, 6), -1);
        check.due("31: replay(0, 1, 0)", x.replay(0, 1, 0), -1968099455);
        check.due("31: replay(0, 2, 0)", x.replay(0, 2, 0), -1968099455);
        check.due("31: replay(0, 3, 0)", x.replay(0, 3, 0), 2097794816);
        check.due("31: replay(0, 2, 6)", x.replay(0, 2, 6), Check.mix(-1, 8));
        check.due("31: replay(0, 4, 0)", x.replay(0, 4, 0), 0);
        check.due("31: replay(0, -1, 6)", x.replay(0, -1, 6), 0);
        check.due("31: replay(1, 1, 6)", x.replay(1, 1, 6), Check.mix(-1, 2));
        check.due("31: replay(1, 2, 6)", x.replay(1, 2, 6), 0);
        check.due("31: replay(2, 0, 6)", x.replay(2, 0, 6), 0);
        check.due("31: replay(-1, 0, 6)", x.replay(-1, 0, 6), 0);
        check.due("31: replay(0, 0, 8)", x.replay(0, 0, 8), 0);
        check.due("31: replay(0, 0, -1)", x.replay(0, 0, -1), 0);
    }

    /** Promise 32. */
    private static void entry() {
        StartLedger x = new StartLedger();
        x.measure(3, 30);
        x.claim(4, 40);
        check.due("32: entry(0, 0, 0)", x.entry(0, 0, 0), 3);
        check.due("32: entry(0, 0, 1)", x.entry(0, 0, 1), 30);
        check.due("32: entry(1, 0, 0)", x.entry(1, 0, 0), 4);
        check.due("32: entry(1, 0, 1)", x.entry(1, 0, 1), 40);
        check.due("32: entry(0, 1, 0)", x.entry(0, 1, 0), 0);
        check.due("32: entry(0, -1, 1)", x.entry(0, -1, 1), 0);
        check.due("32: entry(2, 0, 1)", x.entry(2, 0, 1), 0);
        check.due("32: entry(-1, 0, 1)", x.entry(-1, 0, 1), 0);
        check.due("32: entry(0, 0, 2)", x.entry(0, 0, 2), 0);
        check.due("32: entry(0, 0, -1)", x.entry(0, 0, -1), 0);
        x.start();
        check.due("32: entry(0, 0, 1) behind a start", x.entry(0, 0, 1), 0);
    }

    /** Promise 33. */
    private static void wrong() {
        StartLedger x = at(2);
        x.measure(0, 1);
        x.measure(6, 2);
        check.due("33: wrong(0)", x.wrong(0), 0);
        check.due("33: wrong(1)", x.wrong(1), 65);
        x.claim(0, 1);
        check.due("33: wrong(1)", x.wrong(1), 64);
        x.claim(6, 2);
        x.locality(0);
        check.due("33: of 6, 7 whatever locality is", x.wrong(1), 0);
        x.extend(1, 1);
        check.due("33: wrong(0)", x.wrong(0), 2);
        x.locality(2);
        x.reset(7);
        check.due("33: wrong(0)", x.wrong(0), 130);
        check.due("33: wrong(2)", x.wrong(2), -1);
        check.due("33: wrong(-1)", x.wrong(-1), -1);
    }

    private static void claims(StartLedger x, int... entries) {
        x.claimAs(1);
        for (int i = 0; i + 1 < entries.length; i += 2) x.claim(entries[i], entries[i + 1]);
    }

    /** Promise 34. */
    private static void mended() {
        StartLedger x = at(1);
        check.due("34: nothing told of nothing", x.mended(), 0);
        int[] log = {0, 5, 0, 9, 1, 7, 6, 1};
        for (int i = 0; i < log.length; i += 2) x.measure(log[i], log[i + 1]);
        check.due("34: an empty claim", x.mended(), -1);
        claims(x, log);
        check.due("34: the log", x.mended(), 0);
        claims(x, 1, 7, 0, 5, 6, 1, 0, 9);
        check.due("34: exchanged among registers it is right", x.mended(), 0);
        claims(x, 2, 3, 0, 5, 0, 9, 1, 7, 6, 1);
        check.due("34: one too many at the front", x.mended(), 100);
        claims(x, 0, 5, 0, 9, 1, 7, 6, 1, 6, 4);
        check.due("34: one too many at the end", x.mended(), 104);
        claims(x, 0, 5, 0, 5, 0, 9, 1, 7, 6, 1);
        check.due("34: either of two would do", x.mended(), 100);
        claims(x, 0, 9, 0, 5, 1, 7, 6, 1);
        check.due("34: exchanged", x.mended(), 200);
        claims(x, 1, 7, 6, 1, 0, 9, 0, 5);
        check.due("34: exchanged at the end", x.mended(), 202);
        claims(x, 0, 9, 1, 7, 0, 5, 6, 1);
        check.due("34: not side by side", x.mended(), -1);
        claims(x, 0, 5, 0, 9, 1, 7, 7, 1);
        check.due("34: of another register", x.mended(), 336);
        claims(x, 3, 5, 0, 9, 1, 7, 6, 1);
        check.due("34: of another register, the first", x.mended(), 300);
        claims(x, 0, 5, 0, 8, 1, 7, 6, 1);
        check.due("34: another number", x.mended(), -1);
        claims(x, 0, 5, 1, 7, 6, 1);
        check.due("34: one left out", x.mended(), -1);
        claims(x, 2, 5, 2, 9, 1, 7, 6, 1);
        check.due("34: two of another register", x.mended(), -1);
        claims(x, 0, 9, 0, 5, 1, 7, 6, 1, 2, 2);
        check.due("34: two faults", x.mended(), -1);
        check.due("34: it is on paper alone", x.counts(4), 5);
        claims(x, 0, 5, 0, 9, 0, 7, 6, 2);
        check.due("34: a register is wrong that no moving mends", x.mended(), -1);
        claims(x, 0, 5, 0, 8, 0, 7, 6, 1);
        check.due("34: what is left behind must be right, too", x.mended(), -1);
    }

    private static void mendedOfMany() {
        StartLedger x = new StartLedger();
        for (int i = 0; i < 40; i++) x.measure(5, i);
        x.claimAs(0);
        x.undo();
        x.undo();
        x.claimAs(0);
        x.claim(4, 39);
        check.due("34: entry 39 left out", x.mended(), 139);
        x.measure(5, 39);
        check.due("34: entry 39 of register 5", x.mended(), 300 + 390 + 5);
        x.forge(38, 39);
        check.due("34: no more", x.mended(), -1);
        x.claimAs(0);
        x.forge(38, 39);
        x.forge(39, 38);
        check.due("34: entries 38 and 39 exchanged", x.mended(), 238);
    }

    /** Promise 48. */
    private static void age() {
        StartLedger x = new StartLedger();
        check.due("48: age(0) of an empty log", x.age(0), 0);
        x.measure(0, 1);
        x.measure(0, 2);
        x.measure(1, 3);
        check.due("48: age(0)", x.age(0), 1);
        check.due("48: age(1)", x.age(1), 0);
        check.due("48: age(7)", x.age(7), 3);
        check.due("48: age(8)", x.age(8), -1);
        check.due("48: age(-1)", x.age(-1), -1);
    }

    /** Promise 49. */
    private static void fresh() {
        StartLedger x = new StartLedger();
        check.due("49: fresh(0, 0)", x.fresh(0, 0), 0);
        check.due("49: fresh(255, 0) of an empty log", x.fresh(255, 0), Float.floatToIntBits(1f));
        x.measure(0, 1);
        x.measure(1, 2);
        x.measure(2, 3);
        check.due("49: fresh(1, 0)", x.fresh(1, 0), Float.floatToIntBits(1f / 3f));
        check.due("49: fresh(7, 0)", x.fresh(7, 0), Float.floatToIntBits((1f / 3f + 1f / 2f + 1f) / 3f));
        check.due("49: fresh(9, 0)", x.fresh(9, 0), Float.floatToIntBits((1f / 3f + 1f / 4f) / 2f));
        check.due("49: fresh(256, 0)", x.fresh(256, 0), -1);
        check.due("49: fresh(-1, 0)", x.fresh(-1, 0), -1);
        check.due("49: fresh(1, 2)", x.fresh(1, 2), -1);
        check.due("49: fresh(1, -1)", x.fresh(1, -1), -1);
        x.key(-1, 0);
        x.load(0, 0);
        x.open(0, 0);
        x.renew(0, 0, x.word(0, 4, 0) + 1);
        check.due("49: fresh(-1, 1)", x.fresh(-1, 1), Float.floatToIntBits(1f));
        check.due("49: fresh(256, 1)", x.fresh(256, 1), Float.floatToIntBits(1f));
    }

    private static long meanOf(int... numbers) {
        StartLedger x = new StartLedger();
        for (int n : numbers) x.measure(0, n);
        return x.mean();
    }

    /** Promise 50. */
    private static void mean() {
        check.due("50: of none", meanOf(), 0L);
        check.due("50: of -3", meanOf(-3), Double.doubleToLongBits(-3.0));
        check.due("50: of 5, 9, 7, 1", meanOf(5, 9, 7, 1), 4617878467915022336L);
        check.due("50: of 1, 1, 2", meanOf(1, 1, 2), Double.doubleToLongBits(4.0 / 3.0));
        check.due("50: of -1, -1, 0", meanOf(-1, -1, 0), Double.doubleToLongBits(-2.0 / 3.0));
        check.due("50: of 1, -1", meanOf(1, -1), 0L);
        int least = Integer.MIN_VALUE;
        int most = Integer.MAX_VALUE;
        check.due("50: of the least", meanOf(least, least), Double.doubleToLongBits(-2147483648.0));
        check.due("50: of the most", meanOf(most, most, most - 1), Double.doubleToLongBits(6442450940.0 / 3.0));
        int[] many = new int[40];
        many[3] = 1;
        check.due("50: of 39 noughts and a 1", meanOf(many), Double.doubleToLongBits(1.0 / 40.0));
    }

    public static void main(String[] args) {
        aNewObject();
        start();
        locality();
        tick();
        measure();
        extend();
        reset();
        claim();
        claimAs();
        forge();
        registerAndDigest();
        replay();
        entry();
        wrong();
        mended();
        mendedOfMany();
        age();
        fresh();
        mean();
        check.end("RegistersTest");
    }
}
