import java.util.ArrayDeque;
import java.util.ArrayList;
import java.util.Deque;
import java.util.HashSet;
import java.util.List;
import java.util.Set;

/**
 * The document once more, written down as naively as can be (copies, recursion, searches, the whole library),
 * so that the class can be held against it call by call.
 */
final class Model {
    static final int NONE = -1;

    private static final class S {
        int[] reg = {0, 0, 0, 0, 0, 0, -1, -1};
        int[] counters = new int[4];
        int loc, time, starts = 1, opened;
        float strain;
        List<int[]> log = new ArrayList<>(), claim = new ArrayList<>();
        List<int[]> keys = new ArrayList<>();      // parent, secret, swapped
        int[] slots = {-1, -1, -1};
        List<int[]> contexts = new ArrayList<>();  // start, key, slot, used
        List<int[]> policies = new ArrayList<>();  // sort, a, b
        List<int[]> approved = new ArrayList<>();  // key, policy
        List<int[]> seals = new ArrayList<>();     // secret, key, policy
        int[][] sessions = new int[4][];           // key, nonce, audit; null: not open

        S copy() {
            S c = new S();
            c.reg = reg.clone();
            c.counters = counters.clone();
            c.loc = loc;
            c.time = time;
            c.starts = starts;
            c.opened = opened;
            c.strain = strain;
            c.log = copyOf(log);
            c.claim = copyOf(claim);
            c.keys = copyOf(keys);
            c.slots = slots.clone();
            c.contexts = copyOf(contexts);
            c.policies = copyOf(policies);
            c.approved = copyOf(approved);
            c.seals = copyOf(seals);
            for (int i = 0; i < 4; i++) c.sessions[i] = sessions[i] == null ? null : sessions[i].clone();
            return c;
        }

        private static List<int[]> copyOf(List<int[]> rows) {
            List<int[]> c = new ArrayList<>();
            for (int[] row : rows) c.add(row.clone());
            return c;
        }
    }

    private record Kept(S state, int act) { }

    private S s = new S();
    private final Deque<Kept> undos = new ArrayDeque<>();
    private final S[] images = new S[2];
    private final int[] refused = new int[8];
    private int status;

    // ---- numbers

    static int mix(int a, int b) {
        int x = a ^ Integer.rotateLeft(b, 7);
        x = x * -1_640_531_535 + 97;
        return x ^ (x >>> 15);
    }

    static int hash(int... numbers) {
        int h = 17;
        for (int n : numbers) h = mix(h, n);
        return h;
    }

    // ---- what calls share

    private int no(int by) {
        status = by;
        refused[-by]++;
        return by;
    }

    private int no0(int by) {
        no(by);
        return 0;
    }

    private int yes(int answer) {
        status = 0;
        return answer;
    }

    private void act(int code) {
        undos.addLast(new Kept(s.copy(), code));
        if (undos.size() > 8) undos.removeFirst();
    }

    private static boolean in(int n, int from, int to) {
        return n >= from && n <= to;
    }

    private static boolean at(List<?> rows, int i) {
        return i >= 0 && i < rows.size();
    }

    private int keyIn(int slot) {
        return in(slot, 0, 2) ? s.slots[slot] : -1;
    }

    private int slotOf(int key) {
        for (int i = 0; i < 3; i++) if (s.slots[i] == key) return i;
        return -1;
    }

    private void shut(int key) {
        for (int i = 0; i < 4; i++) if (s.sessions[i] != null && s.sessions[i][0] == key) s.sessions[i] = null;
    }

    private boolean isOpen(int session) {
        return in(session, 0, 3) && s.sessions[session] != null;
    }

    // ---- acts

    int start() {
        act(0);
        restart(s);
        return yes(s.starts);
    }

    private static void restart(S s) {
        s.reg = new int[] {0, 0, 0, 0, 0, 0, -1, -1};
        s.loc = 0;
        s.log.clear();
        s.slots = new int[] {-1, -1, -1};
        for (int[] k : s.keys) k[2] = 0;
        s.sessions = new int[4][];
        s.starts++;
    }

    int locality(int n) {
        if (!in(n, 0, 3)) return no(-1);
        act(1);
        int was = s.loc;
        s.loc = n;
        return yes(was);
    }

    int tick(int n) {
        if (!in(n, 1, 100)) return no(-1);
        if (s.time + n > 99_999) return no(-4);
        act(2);
        for (int i = 0; i < n; i++) {
            s.time++;
            s.strain *= 0.75f;
        }
        return yes(s.time);
    }

    int measure(int r, int number) {
        if (!in(r, 0, 7)) return no(-1);
        if (r >= 6 && s.loc < 1) return no(-4);
        if (s.log.size() == 40) return no(-5);
        act(3);
        s.reg[r] = mix(s.reg[r], number);
        s.log.add(new int[] {r, number});
        return yes(s.log.size());
    }

    int extend(int r, int number) {
        if (!in(r, 0, 7)) return no0(-1);
        if (r >= 6 && s.loc < 1) return no0(-4);
        act(4);
        s.reg[r] = mix(s.reg[r], number);
        return yes(s.reg[r]);
    }

    int reset(int r) {
        if (!in(r, 6, 7)) return no0(-1);
        if (s.loc < 2) return no0(-4);
        act(5);
        int was = s.reg[r];
        s.reg[r] = 0;
        return yes(was);
    }

    int claim(int r, int number) {
        if (!in(r, 0, 7)) return no(-1);
        if (s.claim.size() == 40) return no(-5);
        act(6);
        s.claim.add(new int[] {r, number});
        return yes(s.claim.size());
    }

    int claimAs(int what) {
        if (!in(what, 0, 1)) return no(-1);
        act(7);
        s.claim = what == 0 ? S.copyOf(s.log) : new ArrayList<>();
        return yes(s.claim.size());
    }

    int forge(int i, int number) {
        if (!at(s.claim, i)) return no0(-2);
        act(8);
        int was = s.claim.get(i)[1];
        s.claim.get(i)[1] = number;
        return yes(was);
    }

    int key(int slot, int secret) {
        if (slot != -1 && keyIn(slot) == -1) return no(-2);
        if (s.keys.size() == 10) return no(-5);
        act(9);
        s.keys.add(new int[] {slot == -1 ? -1 : s.slots[slot], secret, 0});
        return yes(s.keys.size() - 1);
    }

    int load(int what, int n) {
        if (!in(what, 0, 1)) return no(-1);
        if (!at(what == 0 ? s.keys : s.seals, n)) return no(-2);
        if (what == 1) return no(-4);
        int[] k = s.keys.get(n);
        if (slotOf(n) != -1 || k[2] == 1 || k[0] != -1 && slotOf(k[0]) == -1) return no(-4);
        int slot = slotOf(-1);
        if (slot == -1) return no(-5);
        act(10);
        s.slots[slot] = n;
        return yes(slot);
    }

    int flush(int slot) {
        int k = keyIn(slot);
        if (k == -1) return no(-2);
        act(11);
        s.slots[slot] = -1;
        shut(k);
        return yes(k);
    }

    int swapOut(int slot) {
        int k = keyIn(slot);
        if (k == -1) return no(-2);
        if (s.contexts.size() == 12) return no(-5);
        act(12);
        s.slots[slot] = -1;
        s.keys.get(k)[2] = 1;
        shut(k);
        s.contexts.add(new int[] {s.starts, k, slot, 0});
        return yes(s.contexts.size() - 1);
    }

    private boolean usable(int context) {
        int[] c = s.contexts.get(context);
        for (int i = context + 1; i < s.contexts.size(); i++) if (s.contexts.get(i)[1] == c[1]) return false;
        return c[0] == s.starts && c[3] == 0 && s.keys.get(c[1])[2] == 1;
    }

    int swapIn(int context) {
        if (!at(s.contexts, context)) return no(-2);
        if (!usable(context)) return no(-4);
        int[] c = s.contexts.get(context);
        if (s.slots[c[2]] != -1) return no(-5);
        act(13);
        c = s.contexts.get(context);
        s.slots[c[2]] = c[1];
        s.keys.get(c[1])[2] = 0;
        c[3] = 1;
        return yes(c[2]);
    }

    int drop(int key) {
        if (!at(s.keys, key)) return no(-2);
        if (s.keys.get(key)[2] == 0) return no(-4);
        act(14);
        s.keys.get(key)[2] = 0;
        return yes(0);
    }

    int policy(int sort, int a, int b) {
        boolean can = switch (sort) {
            case 0 -> in(a, 0, 255);
            case 1 -> in(a, 0, 3) && in(b, 0, 9999);
            case 2 -> in(a, 0, 3);
            case 3, 4, 6 -> true;
            case 5 -> in(b, 0, 99_999);
            case 7 -> in(a, 0, 7);
            default -> false;
        };
        if (!can) return no(-1);
        if ((sort == 3 || sort == 4) && !(at(s.policies, a) && at(s.policies, b))) return no(-2);
        if (sort == 6 && !at(s.keys, a)) return no(-2);
        if (s.policies.size() == 24) return no(-5);
        if ((sort == 3 || sort == 4) && 1 + made(a) + made(b) > 40) return no(-5);
        act(15);
        s.policies.add(new int[] {sort, sort == 5 ? 0 : a, sort == 2 || sort == 6 ? 0 : b});
        return yes(s.policies.size() - 1);
    }

    int policyNow(int set) {
        if (!in(set, 0, 255)) return no(-1);
        if (s.policies.size() == 24) return no(-5);
        act(15);
        s.policies.add(new int[] {0, set, digest(set)});
        return yes(s.policies.size() - 1);
    }

    int seal(int slot, int secret, int policy) {
        if (keyIn(slot) == -1 || policy != -1 && !at(s.policies, policy)) return no(-2);
        if (s.seals.size() == 10) return no(-5);
        act(16);
        s.seals.add(new int[] {secret, s.slots[slot], policy});
        return yes(s.seals.size() - 1);
    }

    int open(int slot, int told) {
        int k = keyIn(slot);
        if (k == -1) return no(-2);
        for (int i = 0; i < 4; i++) {
            if (s.sessions[i] == null) {
                act(17);
                s.sessions[i] = new int[] {k, hash(told, s.opened, s.keys.get(k)[1]), 0};
                s.opened++;
                return yes(i);
            }
        }
        return no(-5);
    }

    int close(int session) {
        if (!isOpen(session)) return no(-2);
        act(18);
        s.sessions[session] = null;
        return yes(0);
    }

    int unseal(int session, int seal, int word) {
        if (!isOpen(session) || !at(s.seals, seal)) return no0(-2);
        act(19);
        int by = 0;
        int p = s.seals.get(seal)[2];
        if (s.strain >= 3f) by = -3;
        else if (s.seals.get(seal)[1] != s.sessions[session][0]) by = -4;
        else if (word != word(session, 1, seal)) by = -6;
        else if (p != -1 && !holds(s, p, true)) by = -7;
        roll(session, 1, seal, word, by);
        return by == 0 ? yes(s.seals.get(seal)[0]) : no0(by);
    }

    int approve(int session, int policy, int word) {
        if (!isOpen(session) || !at(s.policies, policy)) return no(-2);
        act(20);
        int k = s.sessions[session][0];
        int by = 0;
        if (s.strain >= 3f) by = -3;
        else if (s.approved.stream().anyMatch(x -> x[0] == k && x[1] == policy)) by = -4;
        else if (s.approved.size() == 8) by = -5;
        else if (word != word(session, 2, policy)) by = -6;
        roll(session, 2, policy, word, by);
        if (by != 0) return no(by);
        s.approved.add(new int[] {k, policy});
        return yes((int) s.approved.stream().filter(x -> x[0] == k).count());
    }

    int count(int session, int counter, int word) {
        if (!in(counter, 0, 3)) return no(-1);
        if (!isOpen(session)) return no(-2);
        act(21);
        int by = 0;
        if (s.strain >= 3f) by = -3;
        else if (s.counters[counter] == 9999) by = -5;
        else if (word != word(session, 3, counter)) by = -6;
        roll(session, 3, counter, word, by);
        return by == 0 ? yes(++s.counters[counter]) : no(by);
    }

    int renew(int session, int secret, int word) {
        if (!isOpen(session)) return no(-2);
        act(22);
        int by = 0;
        if (s.strain >= 3f) by = -3;
        else if (word != word(session, 4, secret)) by = -6;
        roll(session, 4, secret, word, by);
        if (by != 0) return no(by);
        s.keys.get(s.sessions[session][0])[1] = secret;
        return yes(0);
    }

    private void roll(int session, int call, int number, int word, int by) {
        int[] x = s.sessions[session];
        if (by == -6) s.strain += 1f;
        x[1] = mix(x[1], word);
        x[2] = mix(x[2], hash(call, number, by));
    }

    int undo() {
        if (undos.isEmpty()) return no(-4);
        Kept k = undos.removeLast();
        s = k.state();
        return yes(k.act());
    }

    int image(int k) {
        if (!in(k, 0, 1)) return no(-1);
        images[k] = s.copy();
        return yes(s.time);
    }

    int back(int k) {
        if (!in(k, 0, 1)) return no(-1);
        if (images[k] == null) return no(-4);
        s = images[k].copy();
        undos.clear();
        return yes(s.time);
    }

    // ---- questions

    int register(int r) {
        return in(r, 0, 7) ? s.reg[r] : 0;
    }

    private static int digest(S s, int set) {
        int h = 17;
        for (int r = 0; r < 8; r++) if ((set >> r & 1) == 1) h = mix(h, s.reg[r]);
        return h;
    }

    int digest(int set) {
        return in(set, 0, 255) ? digest(s, set) : 0;
    }

    private static int[] given(List<int[]> entries) {
        int[] v = {0, 0, 0, 0, 0, 0, -1, -1};
        for (int[] e : entries) v[e[0]] = mix(v[e[0]], e[1]);
        return v;
    }

    int replay(int what, int n, int r) {
        if (!in(what, 0, 1) || !in(r, 0, 7)) return 0;
        List<int[]> e = what == 0 ? s.log : s.claim;
        return in(n, 0, e.size()) ? given(e.subList(0, n))[r] : 0;
    }

    int entry(int which, int i, int what) {
        if (!in(which, 0, 1) || !in(what, 0, 1)) return 0;
        List<int[]> e = which == 0 ? s.log : s.claim;
        return at(e, i) ? e.get(i)[what] : 0;
    }

    private int wrongOf(List<int[]> entries) {
        int[] v = given(entries);
        int bits = 0;
        for (int r = 0; r < 8; r++) if (v[r] != s.reg[r]) bits |= 1 << r;
        return bits;
    }

    int wrong(int what) {
        return in(what, 0, 1) ? wrongOf(what == 0 ? s.log : s.claim) : -1;
    }

    int mended() {
        int n = s.claim.size();
        if (wrongOf(s.claim) == 0) return 0;
        for (int i = 0; i < n; i++) {
            List<int[]> c = S.copyOf(s.claim);
            c.remove(i);
            if (wrongOf(c) == 0) return 100 + i;
        }
        for (int i = 0; i + 1 < n; i++) {
            List<int[]> c = S.copyOf(s.claim);
            c.add(i, c.remove(i + 1));
            if (wrongOf(c) == 0) return 200 + i;
        }
        for (int i = 0; i < n; i++) {
            for (int r = 0; r < 8; r++) {
                List<int[]> c = S.copyOf(s.claim);
                if (c.get(i)[0] == r) continue;
                c.get(i)[0] = r;
                if (wrongOf(c) == 0) return 300 + 10 * i + r;
            }
        }
        return -1;
    }

    int word(int session, int call, int number) {
        if (!isOpen(session) || !in(call, 1, 4)) return 0;
        int[] x = s.sessions[session];
        return mix(mix(hash(call, number), x[1]), s.keys.get(x[0])[1]);
    }

    int quote(int slot, int set, int number) {
        if (keyIn(slot) == -1 || !in(set, 0, 255)) return 0;
        return mix(hash(digest(set), number, s.starts, s.time), s.keys.get(keyIn(slot))[1]);
    }

    boolean checks(int slot, int told, int number, int starts, int time, int quote) {
        return keyIn(slot) != -1 && mix(hash(told, number, starts, time), s.keys.get(keyIn(slot))[1]) == quote;
    }

    private int made(int p) {
        int[] x = s.policies.get(p);
        return x[0] == 3 || x[0] == 4 ? 1 + made(x[1]) + made(x[2]) : 1;
    }

    private int name(int p) {
        int[] x = s.policies.get(p);
        return x[0] == 3 || x[0] == 4 ? hash(x[0], name(x[1]), name(x[2])) : hash(x);
    }

    private static boolean logGives(S s, int r) {
        return given(s.log)[r] == s.reg[r];
    }

    private static boolean holds(S s, int p, boolean signed) {
        int[] x = s.policies.get(p);
        int a = x[1];
        int b = x[2];
        return switch (x[0]) {
            case 0 -> digest(s, a) == b;
            case 1 -> s.counters[a] <= b;
            case 2 -> s.loc >= a;
            case 3 -> holds(s, a, signed) && holds(s, b, signed);
            case 4 -> holds(s, a, signed) || holds(s, b, signed);
            case 5 -> s.time <= b;
            case 6 -> signed && s.approved.stream().anyMatch(y -> y[0] == a && holds(s, y[1], false));
            default -> logGives(s, a) && s.log.stream().anyMatch(e -> e[0] == a && e[1] == b);
        };
    }

    private int outlook(int p) {
        if (holds(s, p, true)) return 0;
        int[] x = s.policies.get(p);
        return switch (x[0]) {
            case 0 -> (x[1] & 63) != 0 ? 2 : 1;
            case 1, 5 -> 2;
            case 3 -> Math.max(outlook(x[1]), outlook(x[2]));
            case 4 -> Math.min(outlook(x[1]), outlook(x[2]));
            case 7 -> x[1] < 6 && !logGives(s, x[1]) ? 2 : 1;
            default -> 1;
        };
    }

    private int till(int p, boolean signed) {
        int[] x = s.policies.get(p);
        switch (x[0]) {
            case 3: return Math.min(till(x[1], signed), till(x[2], signed));
            case 4: return Math.max(till(x[1], signed), till(x[2], signed));
            case 5: return x[2];
            case 6:
                int latest = -1;
                for (int[] y : s.approved) if (signed && y[0] == x[1]) latest = Math.max(latest, till(y[1], false));
                return latest;
            default: return holds(s, p, signed) ? 100_000 : -1;
        }
    }

    private int yet(int p) {
        if (holds(s, p, true)) return 0;
        int[] x = s.policies.get(p);
        if (x[0] == 3) return yet(x[1]) + yet(x[2]);
        if (x[0] == 4) return Math.min(yet(x[1]), yet(x[2]));
        return 1;
    }

    int asks(int p, int what) {
        if (!at(s.policies, p)) return -1;
        switch (what) {
            case 0: return holds(s, p, true) ? 1 : 0;
            case 1: return outlook(p);
            case 2: return name(p);
            case 3: return made(p);
            case 4: return till(p, true);
            case 5: return yet(p);
            case 6:
                int bits = 0;
                for (int q = 0; q < s.policies.size(); q++) if (name(q) == name(p)) bits |= 1 << q;
                return bits;
            default: return -1;
        }
    }

    private int whyOf(int p) {
        if (holds(s, p, true)) return 0;
        int[] x = s.policies.get(p);
        return x[0] == 3 || x[0] == 4 ? whyOf(x[1]) | whyOf(x[2]) : 1 << p;
    }

    int why(int p) {
        return at(s.policies, p) ? whyOf(p) : -1;
    }

    int seals(int what) {
        if (!in(what, 0, 1)) return -1;
        int bits = 0;
        for (int i = 0; i < s.seals.size(); i++) {
            int p = s.seals.get(i)[2];
            boolean could = slotOf(s.seals.get(i)[1]) != -1 && (p == -1 || holds(s, p, true));
            if (what == 0 ? could : p != -1 && outlook(p) == 2) bits |= 1 << i;
        }
        return bits;
    }

    /** A search through all that moves can come to, level by level, moves by rising numbers. */
    int reach(int seal, int i) {
        if (!at(s.seals, seal)) return -1;
        S first = s;
        List<S> level = new ArrayList<>(List.of(s));
        List<List<Integer>> ways = new ArrayList<>(List.of(List.of()));
        Set<String> seen = new HashSet<>();
        seen.add(place());
        List<Integer> found = null;
        for (int depth = 0; depth <= 6 && found == null; depth++) {
            List<S> nextLevel = new ArrayList<>();
            List<List<Integer>> nextWays = new ArrayList<>();
            for (int n = 0; n < level.size() && found == null; n++) {
                s = level.get(n);
                if ((seals(0) >> seal & 1) == 1) {
                    found = ways.get(n);
                    break;
                }
                for (int move = 0; move < 52 && depth < 6; move++) {
                    s = moved(level.get(n), move);
                    if (s != null && seen.add(place())) {
                        nextLevel.add(s);
                        List<Integer> way = new ArrayList<>(ways.get(n));
                        way.add(move);
                        nextWays.add(way);
                    }
                }
            }
            level = nextLevel;
            ways = nextWays;
        }
        s = first;
        if (found == null) return -1;
        if (i == -1) return found.size();
        return at(found, i) ? found.get(i) : -1;
    }

    private String place() {
        StringBuilder b = new StringBuilder().append(s.loc);
        for (int k : s.slots) b.append(',').append(k);
        for (int[] k : s.keys) b.append(k[2]);
        for (int[] c : s.contexts) b.append(c[3]);
        return b.toString();
    }

    /** Only what a move changes is copied. */
    private S moved(S from, int move) {
        S before = s;
        s = from;
        boolean can;
        if (move < 10) can = move <= 3 && move != s.loc;
        else if (move < 20) can = keyIn(move - 10) != -1;
        else if (move < 40) {
            int k = move - 20;
            can = at(s.keys, k) && slotOf(k) == -1 && s.keys.get(k)[2] == 0
                && (s.keys.get(k)[0] == -1 || slotOf(s.keys.get(k)[0]) != -1) && slotOf(-1) != -1;
        } else can = at(s.contexts, move - 40) && usable(move - 40) && s.slots[s.contexts.get(move - 40)[2]] == -1;
        s = before;
        if (!can) return null;
        S to = from.copy();
        if (move < 10) to.loc = move;
        else if (move < 20) to.slots[move - 10] = -1;
        else if (move < 40) {
            int slot = 0;
            while (to.slots[slot] != -1) slot++;
            to.slots[slot] = move - 20;
        } else {
            int[] c = to.contexts.get(move - 40);
            to.slots[c[2]] = c[1];
            to.keys.get(c[1])[2] = 0;
            c[3] = 1;
        }
        return to;
    }

    int foreseen(int locality) {
        if (!in(locality, 0, 3)) return -1;
        S p = s.copy();
        restart(p);
        p.loc = locality;
        for (int[] e : p.claim) {
            if (e[0] >= 6 && locality == 0) continue;
            p.reg[e[0]] = mix(p.reg[e[0]], e[1]);
            p.log.add(e);
        }
        int bits = 0;
        for (int i = 0; i < p.seals.size(); i++) {
            int policy = p.seals.get(i)[2];
            if (policy == -1 || holds(p, policy, true)) bits |= 1 << i;
        }
        return bits;
    }

    int audit(int session) {
        return isOpen(session) ? s.sessions[session][2] : 0;
    }

    int guess(int slot, int set, int quote) {
        if (keyIn(slot) == -1 || !in(set, 0, 255)) return -1;
        for (int n = 0; n < 1000; n++) if (quote(slot, set, n) == quote) return n;
        return -1;
    }

    int orphans() {
        int bits = 0;
        for (int k = 0; k < s.keys.size(); k++) {
            int parent = s.keys.get(k)[0];
            if (slotOf(k) != -1 && parent != -1 && slotOf(parent) == -1) bits |= 1 << k;
        }
        return bits;
    }

    int ofKey(int key, int what) {
        if (!at(s.keys, key)) return -1;
        int n = 0;
        switch (what) {
            case 0: return s.keys.get(key)[0];
            case 1: return slotOf(key);
            case 2: return s.keys.get(key)[2];
            case 3: return (int) s.approved.stream().filter(x -> x[0] == key).count();
            case 4:
                for (int k = s.keys.get(key)[0]; k != -1; k = s.keys.get(k)[0]) n++;
                return n;
            case 5:
                for (int i = 0; i < s.seals.size(); i++) if (s.seals.get(i)[1] == key) n |= 1 << i;
                return n;
            default: return -1;
        }
    }

    int of(int n, int what) {
        return switch (what) {
            case 0 -> isOpen(n) ? s.sessions[n][0] : -1;
            case 1 -> at(s.seals, n) ? s.seals.get(n)[1] : -1;
            case 2 -> at(s.seals, n) ? s.seals.get(n)[2] : -1;
            case 3 -> at(s.policies, n) ? s.policies.get(n)[0] : -1;
            case 4 -> at(s.policies, n) ? s.policies.get(n)[1] : -1;
            case 5 -> at(s.contexts, n) ? s.contexts.get(n)[1] : -1;
            case 6 -> at(s.contexts, n) ? s.contexts.get(n)[2] : -1;
            case 7 -> at(s.contexts, n) ? usable(n) ? 1 : 0 : -1;
            default -> -1;
        };
    }

    int age(int r) {
        if (!in(r, 0, 7)) return -1;
        for (int i = s.log.size() - 1; i >= 0; i--) if (s.log.get(i)[0] == r) return s.log.size() - 1 - i;
        return s.log.size();
    }

    int fresh(int set, int what) {
        if (what == 1) return Float.floatToIntBits(s.strain);
        if (what != 0 || !in(set, 0, 255)) return -1;
        float sum = 0;
        for (int r = 0; r < 8; r++) if ((set >> r & 1) == 1) sum += 1f / (age(r) + 1);
        return Float.floatToIntBits(set == 0 ? 0f : sum / Integer.bitCount(set));
    }

    long mean() {
        double sum = 0;
        for (int[] e : s.log) sum += e[1];
        return Double.doubleToLongBits(s.log.isEmpty() ? 0.0 : sum / s.log.size());
    }

    int locked() {
        int n = 0;
        for (float x = s.strain; x >= 3f; x *= 0.75f) n++;
        return n;
    }

    int counts(int what) {
        int bits = 0;
        switch (what) {
            case 0: return s.loc;
            case 1: return s.time;
            case 2: return s.starts;
            case 3: return s.log.size();
            case 4: return s.claim.size();
            case 5: return s.keys.size();
            case 6:
                for (int i = 0; i < 3; i++) if (s.slots[i] != -1) bits |= 1 << i;
                return bits;
            case 7: return s.contexts.size();
            case 8: return s.policies.size();
            case 9: return s.seals.size();
            case 10:
                for (int i = 0; i < 4; i++) if (s.sessions[i] != null) bits |= 1 << i;
                return bits;
            case 11: return s.opened;
            case 12, 13, 14, 15: return s.counters[what - 12];
            case 16: return s.approved.size();
            case 17: return undos.size();
            case 18, 19, 20, 21, 22, 23, 24: return refused[what - 17];
            default: return -1;
        }
    }

    int status() {
        return status;
    }
}
