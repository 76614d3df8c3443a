/** All that can be asked of an object, but for what is told of refused calls and how many acts can be undone. */
final class Seen {
    private final StartLedger x;
    private final StringBuilder text = new StringBuilder();

    private Seen(StartLedger x) {
        this.x = x;
    }

    static String of(StartLedger x) {
        Seen seen = new Seen(x);
        seen.board();
        seen.keys();
        seen.policies();
        for (int session = 0; session < 4; session++) seen.session(session);
        seen.strain();
        return seen.text.toString();
    }

    /** But for the strain and one session's nonce and audit: what a call that is refused behind its word leaves alone. */
    static String but(StartLedger x, int session) {
        Seen seen = new Seen(x);
        seen.board();
        seen.keys();
        seen.policies();
        for (int other = 0; other < 4; other++) if (other != session) seen.session(other);
        return seen.text.toString();
    }

    private void add(long answer) {
        text.append(answer).append(' ');
    }

    private void board() {
        for (int what = 0; what < 17; what++) add(x.counts(what));
        for (int r = 0; r < 8; r++) add(x.register(r));
        for (int what = 0; what < 4; what++) {
            for (int i = 0; i < 40; i++) add(x.entry(what & 1, i, what >> 1));
        }
        add(x.wrong(0));
        add(x.wrong(1));
        add(x.mended());
        add(x.mean());
    }

    private void keys() {
        for (int k = 0; k < 10; k++) {
            for (int what = 0; what < 6; what++) add(x.ofKey(k, what));
        }
        for (int n = 0; n < 24; n++) {
            for (int what = 0; what < 8; what++) add(x.of(n, what));
        }
        for (int slot = 0; slot < 3; slot++) add(x.quote(slot, 255, 7));
        add(x.orphans());
    }

    private void policies() {
        for (int p = 0; p < 24; p++) {
            for (int what = 0; what < 7; what++) add(x.asks(p, what));
            add(x.why(p));
        }
        for (int what = 0; what < 2; what++) add(x.seals(what));
        for (int n = 0; n < 4; n++) add(x.foreseen(n));
        for (int seal = 0; seal < 10; seal++) add(x.reach(seal, StartLedger.NONE));
    }

    private void session(int session) {
        add(x.word(session, 1, 0));
        add(x.audit(session));
    }

    private void strain() {
        add(x.fresh(0, 1));
        add(x.locked());
    }
}
