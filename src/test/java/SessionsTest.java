/** Promises 20 to 25, 35 to 37, 43, 44, 51: sessions, words, strain, quotes. */
public final class SessionsTest {
    private static final Check check = new Check();

    /** Keys 0 and 1 (secrets 100, 200) loaded, session 0 on key 0 by 55. */
    private static StartLedger withSession() {
        StartLedger x = new StartLedger();
        x.key(-1, 100);
        x.key(-1, 200);
        x.load(0, 0);
        x.load(0, 1);
        x.open(0, 55);
        return x;
    }

    private static void strain(StartLedger x, int many) {
        for (int i = 0; i < many; i++) x.renew(0, 0, x.word(0, 4, 0) + 1);
    }

    private static int wordBy(int call, int number, int nonce, int secret) {
        return Check.mix(Check.mix(Check.hash(call, number), nonce), secret);
    }

    /** Promise 20. */
    private static void open() {
        StartLedger x = new StartLedger();
        check.refused(x, "20: open(0, 1)", x.open(0, 1), -2);
        x.key(-1, 100);
        x.load(0, 0);
        check.refused(x, "20: open(1, 1)", x.open(1, 1), -2);
        check.refused(x, "20: open(-1, 1)", x.open(-1, 1), -2);
        check.refused(x, "20: open(3, 1)", x.open(3, 1), -2);
        for (int i = 0; i < 4; i++) {
            check.act(x, "20: open(0, 7)", x.open(0, 7), i, 0);
            check.due("20: its nonce is heard", x.word(i, 3, 2), wordBy(3, 2, Check.hash(7, i, 100), 100));
        }
        check.refused(x, "20: the fifth", x.open(0, 7), -5);
        check.refused(x, "20: -2 comes ahead of -5", x.open(1, 7), -2);
        x.close(2);
        x.close(1);
        check.act(x, "20: the lowest", x.open(0, -7), 1, 0);
        check.due("20: all that were opened count", x.word(1, 3, 2), wordBy(3, 2, Check.hash(-7, 4, 100), 100));
        check.due("20: counts(11)", x.counts(11), 5);
        check.due("20: counts(10)", x.counts(10), 11);
        check.due("20: its key", x.of(1, 0), 0);
    }

    /** Promise 21. */
    private static void close() {
        StartLedger x = withSession();
        check.refused(x, "21: close(1)", x.close(1), -2);
        check.refused(x, "21: close(-1)", x.close(-1), -2);
        check.refused(x, "21: close(4)", x.close(4), -2);
        check.act(x, "21: close(0)", x.close(0), 0, 0);
        check.due("21: counts(10)", x.counts(10), 0);
        check.refused(x, "21: close(0)", x.close(0), -2);
        check.due("21: its key", x.of(0, 0), -1);
    }

    /** Promise 22. */
    private static void unseal() {
        StartLedger x = withSession();
        x.policy(2, 1, 0);
        x.seal(0, 777, -1);
        x.seal(1, 888, -1);
        x.seal(0, 999, 0);
        check.refusedAny(x, "22: unseal(1, 0, 0)", x.unseal(1, 0, 0), -2);
        check.refusedAny(x, "22: unseal(-1, 0, 0)", x.unseal(-1, 0, 0), -2);
        check.refusedAny(x, "22: unseal(0, 3, 0)", x.unseal(0, 3, 0), -2);
        check.refusedAny(x, "22: unseal(0, -1, 0)", x.unseal(0, -1, 0), -2);
        check.due("22: audit(0)", x.audit(0), 0);
        int nonce = Check.hash(55, 0, 100);
        int word = wordBy(1, 0, nonce, 100);
        check.due("22: word(0, 1, 0)", x.word(0, 1, 0), word);
        check.act(x, "22: unseal(0, 0, word)", x.unseal(0, 0, word), 777, 0);
        nonce = Check.mix(nonce, word);
        check.due("22: the nonce rolls", x.word(0, 1, 0), wordBy(1, 0, nonce, 100));
        check.refusedAny(x, "22: said once", x.unseal(0, 0, word), -6);
        nonce = Check.mix(nonce, word);
        check.due("22: it rolls by a wrong word too", x.word(0, 1, 0), wordBy(1, 0, nonce, 100));
        check.due("22: it strains", x.fresh(0, 1), Float.floatToIntBits(1f));
        check.refusedAny(x, "22: another key", x.unseal(0, 1, 12), -4);
        nonce = Check.mix(nonce, 12);
        check.due("22: it rolls by -4 too", x.word(0, 1, 2), wordBy(1, 2, nonce, 100));
        check.due("22: the word is asked for behind -4", x.fresh(0, 1), Float.floatToIntBits(1f));
        word = x.word(0, 1, 2);
        check.refusedAny(x, "22: its policy does not hold", x.unseal(0, 2, word), -7);
        nonce = Check.mix(nonce, word);
        check.due("22: it rolls by -7 too", x.word(0, 1, 2), wordBy(1, 2, nonce, 100));
        check.refusedAny(x, "22: -6 comes ahead of -7", x.unseal(0, 2, 0), -6);
        x.locality(1);
        check.act(x, "22: its policy holds", x.unseal(0, 2, x.word(0, 1, 2)), 999, 0);
        strain(x, 1);
        nonce = x.word(0, 1, 1);
        check.refusedAny(x, "22: it is locked", x.unseal(0, 1, x.word(0, 1, 1)), -3);
        check.due("22: it rolls by -3 too", x.word(0, 1, 1) == nonce ? 1 : 0, 0);
        check.refusedAny(x, "22: -2 comes ahead of -3", x.unseal(0, 3, 0), -2);
    }

    /** Promise 23. */
    private static void approve() {
        StartLedger x = withSession();
        x.open(1, 3);
        for (int p = 0; p < 9; p++) x.policy(2, 0, 0);
        check.refused(x, "23: approve(2, 0, 0)", x.approve(2, 0, 0), -2);
        check.refused(x, "23: approve(0, 9, 0)", x.approve(0, 9, 0), -2);
        check.refused(x, "23: approve(0, -1, 0)", x.approve(0, -1, 0), -2);
        check.act(x, "23: approve(0, 3, word)", x.approve(0, 3, x.word(0, 2, 3)), 1, 0);
        check.refused(x, "23: it has", x.approve(0, 3, x.word(0, 2, 3)), -4);
        check.act(x, "23: approve(0, 4, word)", x.approve(0, 4, x.word(0, 2, 4)), 2, 0);
        check.act(x, "23: another key has not", x.approve(1, 3, x.word(1, 2, 3)), 1, 0);
        check.refused(x, "23: a wrong word", x.approve(1, 4, x.word(1, 2, 3)), -6);
        check.due("23: it strains", x.fresh(0, 1), Float.floatToIntBits(1f));
        for (int p = 5; p < 9; p++) check.due("23: approve(1, p, word)", x.approve(1, p, x.word(1, 2, p)), p - 3);
        check.act(x, "23: the eighth", x.approve(0, 5, x.word(0, 2, 5)), 3, 0);
        check.refused(x, "23: the ninth", x.approve(0, 6, x.word(0, 2, 6)), -5);
        check.refused(x, "23: -5 comes ahead of -6", x.approve(0, 6, 0), -5);
        check.refused(x, "23: -4 comes ahead of -5", x.approve(0, 5, 0), -4);
        check.due("23: counts(16)", x.counts(16), 8);
        check.due("23: of key 1", x.ofKey(1, 3), 5);
        strain(x, 2);
        check.refused(x, "23: it is locked", x.approve(0, 5, 0), -3);
    }

    /** Promise 24. */
    private static void count() {
        StartLedger x = withSession();
        check.refused(x, "24: count(0, 4, 0)", x.count(0, 4, 0), -1);
        check.refused(x, "24: count(0, -1, 0)", x.count(0, -1, 0), -1);
        check.refused(x, "24: -1 comes ahead of -2", x.count(1, 4, 0), -1);
        check.refused(x, "24: count(1, 0, 0)", x.count(1, 0, 0), -2);
        check.due("24: audit(0)", x.audit(0), 0);
        for (int n = 1; n <= 3; n++) check.act(x, "24: count(0, 3, word)", x.count(0, 3, x.word(0, 3, 3)), n, 0);
        check.act(x, "24: count(0, 0, word)", x.count(0, 0, x.word(0, 3, 0)), 1, 0);
        check.refused(x, "24: another counter's word", x.count(0, 1, x.word(0, 3, 2)), -6);
        int[] due = {1, 0, 0, 3};
        for (int c = 0; c < 4; c++) check.due("24: counts(12 and c)", x.counts(12 + c), due[c]);
        strain(x, 2);
        check.refused(x, "24: it is locked", x.count(0, 0, x.word(0, 3, 0)), -3);
        check.refused(x, "24: -1 comes ahead of -3", x.count(0, 4, 0), -1);
    }

    /** Promise 24, the counter's end; more calls than one object is promised for, but nothing counts them. */
    private static void countToTheEnd() {
        StartLedger x = withSession();
        for (int n = 1; n <= 9999; n++) x.count(0, 2, x.word(0, 3, 2));
        check.due("24: counts(14)", x.counts(14), 9999);
        check.refused(x, "24: no more", x.count(0, 2, x.word(0, 3, 2)), -5);
        check.refused(x, "24: -5 comes ahead of -6", x.count(0, 2, 0), -5);
        check.due("24: counts(14)", x.counts(14), 9999);
        check.act(x, "24: another one", x.count(0, 1, x.word(0, 3, 1)), 1, 0);
    }

    /** Promise 25. */
    private static void renew() {
        StartLedger x = withSession();
        x.seal(0, 777, -1);
        check.refused(x, "25: renew(1, 5, 0)", x.renew(1, 5, 0), -2);
        check.refused(x, "25: renew(4, 5, 0)", x.renew(4, 5, 0), -2);
        int nonce = Check.hash(55, 0, 100);
        int word = x.word(0, 4, -5);
        check.due("25: word(0, 4, -5)", word, wordBy(4, -5, nonce, 100));
        check.refused(x, "25: a wrong word", x.renew(0, 5, word), -6);
        nonce = Check.mix(nonce, word);
        word = wordBy(4, -5, nonce, 100);
        check.act(x, "25: renew(0, -5, word)", x.renew(0, -5, word), 0, 0);
        nonce = Check.mix(nonce, word);
        check.due("25: the secret is new", x.word(0, 1, 0), wordBy(1, 0, nonce, -5));
        check.act(x, "25: seals stay", x.unseal(0, 0, x.word(0, 1, 0)), 777, 0);
        check.due("25: another key's stays", x.quote(1, 0, 0), Check.mix(Check.hash(17, 0, 1, 0), 200));
        strain(x, 2);
        check.refused(x, "25: it is locked", x.renew(0, 5, x.word(0, 4, 5)), -3);
    }

    /** Promise 35. */
    private static void word() {
        StartLedger x = withSession();
        for (int call = 1; call <= 4; call++) {
            check.due("35: word(0, call, -3)", x.word(0, call, -3), wordBy(call, -3, Check.hash(55, 0, 100), 100));
        }
        check.due("35: word(0, 0, 1)", x.word(0, 0, 1), 0);
        check.due("35: word(0, 5, 1)", x.word(0, 5, 1), 0);
        check.due("35: word(1, 1, 1)", x.word(1, 1, 1), 0);
        check.due("35: word(-1, 1, 1)", x.word(-1, 1, 1), 0);
        check.due("35: word(4, 1, 1)", x.word(4, 1, 1), 0);
        x.flush(0);
        check.due("35: its key is flushed", x.word(0, 1, 1), 0);
        StartLedger y = new StartLedger();
        y.key(-1, 100);
        y.load(0, 0);
        y.key(0, 200);
        y.key(0, 300);
        y.load(0, 1);
        y.load(0, 2);
        y.open(2, 55);
        check.due("35: as the shared test has it", y.word(0, 1, 0), -999403867);
    }

    /** Promise 36. */
    private static void quote() {
        StartLedger x = withSession();
        x.measure(1, 4);
        x.start();
        x.load(0, 1);
        x.tick(9);
        x.measure(2, 5);
        check.due("36: quote(0, 6, 42)", x.quote(0, 6, 42), Check.mix(Check.hash(x.digest(6), 42, 2, 9), 200));
        check.due("36: quote(0, 0, -1)", x.quote(0, 0, -1), Check.mix(Check.hash(17, -1, 2, 9), 200));
        check.due("36: quote(0, 255, 0)", x.quote(0, 255, 0), Check.mix(Check.hash(x.digest(255), 0, 2, 9), 200));
        check.due("36: quote(0, 256, 0)", x.quote(0, 256, 0), 0);
        check.due("36: quote(0, -1, 0)", x.quote(0, -1, 0), 0);
        check.due("36: quote(1, 1, 0)", x.quote(1, 1, 0), 0);
        check.due("36: quote(-1, 1, 0)", x.quote(-1, 1, 0), 0);
        check.due("36: quote(3, 1, 0)", x.quote(3, 1, 0), 0);
    }

    private static void checked(StartLedger x, int want, int slot, int... n) {
        check.due("37: checks(..)", x.checks(slot, n[0], n[1], n[2], n[3], n[4]) ? 1 : 0, want);
    }

    /** Promise 37. */
    private static void checks() {
        StartLedger x = withSession();
        x.tick(3);
        int told = x.digest(5);
        int quote = x.quote(0, 5, 42);
        x.measure(0, 1);
        x.tick(4);
        checked(x, 1, 0, told, 42, 1, 3, quote);
        checked(x, 0, 1, told, 42, 1, 3, quote);
        checked(x, 0, 2, told, 42, 1, 3, quote);
        checked(x, 0, -1, told, 42, 1, 3, quote);
        checked(x, 0, 0, told + 1, 42, 1, 3, quote);
        checked(x, 0, 0, told, 43, 1, 3, quote);
        checked(x, 0, 0, told, 42, 2, 3, quote);
        checked(x, 0, 0, told, 42, 1, 7, quote);
        checked(x, 0, 0, told, 42, 1, 3, quote + 1);
        x.start();
        checked(x, 0, 0, told, 42, 1, 3, quote);
        x.load(0, 1);
        x.load(0, 0);
        checked(x, 1, 1, told, 42, 1, 3, quote);
        checked(x, 0, 2, told, 42, 1, 3, Check.mix(Check.hash(told, 42, 1, 3), 0));
        checked(x, 1, 0, -1, -2, -3, -4, Check.mix(Check.hash(-1, -2, -3, -4), 200));
    }

    /** Promise 43. */
    private static void audit() {
        StartLedger x = withSession();
        x.policy(2, 3, 0);
        x.seal(0, 5, 0);
        x.seal(1, 5, 0);
        check.due("43: at first", x.audit(0), 0);
        int due = 0;
        x.count(0, 2, x.word(0, 3, 2));
        due = Check.mix(due, Check.hash(3, 2, 0));
        check.due("43: by count()", x.audit(0), due);
        x.unseal(0, 0, x.word(0, 1, 0));
        due = Check.mix(due, Check.hash(1, 0, -7));
        check.due("43: by -7", x.audit(0), due);
        x.unseal(0, 1, 9);
        due = Check.mix(due, Check.hash(1, 1, -4));
        check.due("43: by -4", x.audit(0), due);
        x.count(0, 4, 9);
        x.unseal(0, 2, 9);
        check.due("43: not by -1, -2", x.audit(0), due);
        x.approve(0, 0, x.word(0, 2, 0));
        due = Check.mix(due, Check.hash(2, 0, 0));
        check.due("43: by approve()", x.audit(0), due);
        x.renew(0, 8, x.word(0, 4, 8));
        due = Check.mix(due, Check.hash(4, 8, 0));
        check.due("43: by renew()", x.audit(0), due);
        for (int i = 0; i < 3; i++) {
            x.renew(0, i, x.word(0, 4, i) + 1);
            due = Check.mix(due, Check.hash(4, i, -6));
        }
        check.due("43: by -6", x.audit(0), due);
        x.renew(0, 4, 4);
        due = Check.mix(due, Check.hash(4, 4, -3));
        check.due("43: by -3", x.audit(0), due);
        check.due("43: audit(1)", x.audit(1), 0);
        check.due("43: audit(-1)", x.audit(-1), 0);
        check.due("43: audit(4)", x.audit(4), 0);
        x.close(0);
        check.due("43: it is closed", x.audit(0), 0);
        x.open(0, 1);
        check.due("43: at first once more", x.audit(0), 0);
    }

    /** Promise 44. */
    private static void guess() {
        StartLedger x = withSession();
        x.measure(3, 9);
        x.tick(6);
        int[] numbers = {0, 1, 42, 998, 999};
        for (int n : numbers) check.due("44: guess of " + n, x.guess(1, 8, x.quote(1, 8, n)), n);
        check.due("44: guess of 1000", x.guess(1, 8, x.quote(1, 8, 1000)), -1);
        check.due("44: guess of -1", x.guess(1, 8, x.quote(1, 8, -1)), -1);
        check.due("44: another set", x.guess(1, 9, x.quote(1, 8, 42)), -1);
        check.due("44: another key", x.guess(0, 8, x.quote(1, 8, 42)), -1);
        int byNone = Check.mix(Check.hash(x.digest(8), 42, 1, 6), 0);
        check.due("44: no key", x.guess(2, 8, byNone), -1);
        check.due("44: no slot", x.guess(-1, 8, byNone), -1);
        check.due("44: no set", x.guess(1, 256, x.quote(1, 0, 42)), -1);
        check.due("44: no set", x.guess(1, -1, x.quote(1, 255, 42)), -1);
        x.renew(0, -123456789, x.word(0, 4, -123456789));
        for (int n : numbers) check.due("44: guess of " + n, x.guess(0, 8, x.quote(0, 8, n)), n);
        x.extend(3, -77);
        for (int n : numbers) check.due("44: guess of " + n, x.guess(0, 8, x.quote(0, 8, n)), n);
        int old = x.quote(1, 8, 42);
        x.tick(1);
        check.due("44: another time", x.guess(1, 8, old), -1);
        check.due("44: of the empty set", x.guess(1, 0, x.quote(1, 0, 500)), 500);
    }

    /** Promise 51. */
    private static void locked() {
        StartLedger x = withSession();
        check.due("51: no strain", x.locked(), 0);
        strain(x, 2);
        check.due("51: 2", x.locked(), 0);
        check.due("49: strain 2", x.fresh(0, 1), Float.floatToIntBits(2f));
        strain(x, 1);
        check.due("51: 3", x.locked(), 1);
        check.due("49: strain 3", x.fresh(0, 1), Float.floatToIntBits(3f));
        x.tick(1);
        check.due("51: 2.25", x.locked(), 0);
        strain(x, 1);
        check.due("51: 3.25", x.locked(), 1);
        check.due("51: strain", x.fresh(0, 1), Float.floatToIntBits(3.25f));
        x.start();
        check.due("51: a start does not help", x.locked(), 1);
        x.tick(1);
        check.due("51: a tick does", x.locked(), 0);
    }

    public static void main(String[] args) {
        open();
        close();
        unseal();
        approve();
        count();
        countToTheEnd();
        renew();
        word();
        quote();
        checks();
        audit();
        guess();
        locked();
        check.end("SessionsTest");
    }
}
