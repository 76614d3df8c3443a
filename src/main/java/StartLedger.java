/**
 * A measured start: registers that can only be extended, a log of what extended them, keys below keys,
 * secrets sealed to policies, sessions with rolling nonces, counters, quotes, acts taken back, images.
 * The words in the comments are those of the project's document.
 */
public final class StartLedger {
    public static final int NONE = -1;

    private static final int REGISTERS = 8;
    /** From this register on locality decides what may be done. */
    private static final int GUARDED = 6;
    private static final int SETS = 256;
    private static final int LOCALITIES = 4;
    private static final int ENTRIES = 40;
    private static final int KEYS = 10;
    private static final int SLOTS = 3;
    private static final int CONTEXTS = 12;
    private static final int POLICIES = 24;
    private static final int MOST_MADE = 40;
    private static final int APPROVALS = 8;
    private static final int SEALS = 10;
    private static final int SESSIONS = 4;
    private static final int COUNTERS = 4;
    private static final int MOST_COUNT = 9999;
    private static final int LAST_TIME = 99999;
    private static final int FOR_EVER = 100000;
    private static final int MOST_TICKS = 100;
    private static final int MOVES = 6;
    private static final int UNDOS = 8;
    private static final int IMAGES = 2;
    private static final int GUESSES = 1000;
    private static final int LOCKING_STRAIN = 3;

    private static final int STATE_SORT = 0;
    private static final int COUNTER_SORT = 1;
    private static final int LOCALITY_SORT = 2;
    private static final int BOTH_SORT = 3;
    private static final int EITHER_SORT = 4;
    private static final int TIME_SORT = 5;
    private static final int SIGNED_SORT = 6;
    private static final int LOGGED_SORT = 7;

    private static final int UNSEAL_CALL = 1;
    private static final int APPROVE_CALL = 2;
    private static final int COUNT_CALL = 3;
    private static final int RENEW_CALL = 4;

    private static final int CANNOT_BE = -1;
    private static final int NO_SUCH = -2;
    private static final int IS_LOCKED = -3;
    private static final int NOT_NOW = -4;
    private static final int NO_ROOM = -5;
    private static final int WRONG_WORD = -6;
    private static final int NOT_HELD = -7;
    private static final int REFUSALS = 7;

    private static final int START_ACT = 0;
    private static final int LOCALITY_ACT = 1;
    private static final int TICK_ACT = 2;
    private static final int MEASURE_ACT = 3;
    private static final int EXTEND_ACT = 4;
    private static final int RESET_ACT = 5;
    private static final int CLAIM_ACT = 6;
    private static final int CLAIM_AS_ACT = 7;
    private static final int FORGE_ACT = 8;
    private static final int KEY_ACT = 9;
    private static final int LOAD_ACT = 10;
    private static final int FLUSH_ACT = 11;
    private static final int SWAP_OUT_ACT = 12;
    private static final int SWAP_IN_ACT = 13;
    private static final int DROP_ACT = 14;
    private static final int POLICY_ACT = 15;
    private static final int SEAL_ACT = 16;
    private static final int OPEN_ACT = 17;
    private static final int CLOSE_ACT = 18;
    private static final int UNSEAL_ACT = 19;
    private static final int APPROVE_ACT = 20;
    private static final int COUNT_ACT = 21;
    private static final int RENEW_ACT = 22;

    private final State now = new State();
    /** What would be: made anew by each call that asks for it. */
    private final State paper = new State();
    private final Judge judge = new Judge();
    private final Route route = new Route();
    private final History history = new History();
    /** How many calls were refused by -1, -2 and on; no undo and no image takes it back. */
    private final int[] refusals = new int[REFUSALS];
    private int latestRefusal;

    public StartLedger() {
        latestRefusal = 0;
    }

    // ---- acts on registers, the log and the claim

    public int start() {
        history.keep(now, START_ACT);
        now.restart();
        return accept(now.board.starts);
    }

    public int locality(int n) {
        if (!isLocality(n)) return refuse(CANNOT_BE);
        history.keep(now, LOCALITY_ACT);
        int before = now.board.locality;
        now.board.locality = n;
        return accept(before);
    }

    public int tick(int n) {
        if (n < 1 || n > MOST_TICKS) return refuse(CANNOT_BE);
        if (now.board.time + n > LAST_TIME) return refuse(NOT_NOW);
        history.keep(now, TICK_ACT);
        for (int i = 0; i < n; i++) now.board.passTick();
        return accept(now.board.time);
    }

    public int measure(int register, int number) {
        if (!isRegister(register)) return refuse(CANNOT_BE);
        if (!now.board.mayExtend(register)) return refuse(NOT_NOW);
        if (now.log.isFull()) return refuse(NO_ROOM);
        history.keep(now, MEASURE_ACT);
        now.writeDown(register, number);
        return accept(now.log.size);
    }

    public int extend(int register, int number) {
        if (!isRegister(register)) return refuseAny(CANNOT_BE);
        if (!now.board.mayExtend(register)) return refuseAny(NOT_NOW);
        history.keep(now, EXTEND_ACT);
        now.board.extendBy(register, number);
        return accept(now.board.registers[register]);
    }

    public int reset(int register) {
        if (!isRegister(register) || register < GUARDED) return refuseAny(CANNOT_BE);
        if (now.board.locality < 2) return refuseAny(NOT_NOW);
        history.keep(now, RESET_ACT);
        int before = now.board.registers[register];
        now.board.registers[register] = 0;
        return accept(before);
    }

    public int claim(int register, int number) {
        if (!isRegister(register)) return refuse(CANNOT_BE);
        if (now.claim.isFull()) return refuse(NO_ROOM);
        history.keep(now, CLAIM_ACT);
        now.claim.append(register, number);
        return accept(now.claim.size);
    }

    public int claimAs(int what) {
        if (what != 0 && what != 1) return refuse(CANNOT_BE);
        history.keep(now, CLAIM_AS_ACT);
        if (what == 0) now.claim.take(now.log);
        else now.claim.size = 0;
        return accept(now.claim.size);
    }

    public int forge(int i, int number) {
        if (!now.claim.has(i)) return refuseAny(NO_SUCH);
        history.keep(now, FORGE_ACT);
        int before = now.claim.numbers[i];
        now.claim.numbers[i] = number;
        return accept(before);
    }

    // ---- acts on keys

    public int key(int slot, int secret) {
        int parent = slot == NONE ? NONE : now.keys.inSlot(slot);
        if (slot != NONE && parent == NONE) return refuse(NO_SUCH);
        if (now.keys.size >= KEYS) return refuse(NO_ROOM);
        history.keep(now, KEY_ACT);
        return accept(now.keys.append(parent, secret));
    }

    public int load(int what, int number) {
        if (what != 0 && what != 1) return refuse(CANNOT_BE);
        boolean there = what == 0 ? now.keys.has(number) : now.seals.has(number);
        if (!there) return refuse(NO_SUCH);
        if (what == 1 || !now.keys.mayLoad(number)) return refuse(NOT_NOW);
        int slot = now.keys.freeSlot();
        if (slot == NONE) return refuse(NO_ROOM);
        history.keep(now, LOAD_ACT);
        now.keys.put(slot, number);
        return accept(slot);
    }

    public int flush(int slot) {
        int key = now.keys.inSlot(slot);
        if (key == NONE) return refuse(NO_SUCH);
        history.keep(now, FLUSH_ACT);
        now.unload(slot, key);
        return accept(key);
    }

    public int swapOut(int slot) {
        int key = now.keys.inSlot(slot);
        if (key == NONE) return refuse(NO_SUCH);
        if (now.keys.contexts >= CONTEXTS) return refuse(NO_ROOM);
        history.keep(now, SWAP_OUT_ACT);
        now.unload(slot, key);
        return accept(now.keys.appendContext(now.board.starts, key, slot));
    }

    public int swapIn(int context) {
        Keys keys = now.keys;
        if (!keys.hasContext(context)) return refuse(NO_SUCH);
        if (!keys.mayComeBack(context, now.board.starts)) return refuse(NOT_NOW);
        int slot = keys.contextSlot[context];
        if (keys.inSlot(slot) != NONE) return refuse(NO_ROOM);
        history.keep(now, SWAP_IN_ACT);
        keys.comeBack(context);
        return accept(slot);
    }

    public int drop(int key) {
        if (!now.keys.has(key)) return refuse(NO_SUCH);
        if (now.keys.swapped[key] == 0) return refuse(NOT_NOW);
        history.keep(now, DROP_ACT);
        now.keys.swapped[key] = 0;
        return accept(0);
    }

    // ---- acts on policies and seals

    public int policy(int sort, int a, int b) {
        if (!mayBePolicy(sort, a, b)) return refuse(CANNOT_BE);
        if (!standsBelowPolicy(sort, a, b)) return refuse(NO_SUCH);
        return addPolicy(sort, sort == TIME_SORT ? 0 : a, sort == LOCALITY_SORT || sort == SIGNED_SORT ? 0 : b);
    }

    public int policyNow(int set) {
        if (!isSet(set)) return refuse(CANNOT_BE);
        return addPolicy(STATE_SORT, set, now.board.digestOf(set));
    }

    public int seal(int slot, int secret, int policy) {
        int key = now.keys.inSlot(slot);
        if (key == NONE || policy != NONE && !now.policies.has(policy)) return refuse(NO_SUCH);
        if (now.seals.size >= SEALS) return refuse(NO_ROOM);
        history.keep(now, SEAL_ACT);
        return accept(now.seals.append(secret, key, policy));
    }

    // ---- acts on and by sessions

    public int open(int slot, int told) {
        int key = now.keys.inSlot(slot);
        if (key == NONE) return refuse(NO_SUCH);
        int session = now.sessions.firstClosed();
        if (session == NONE) return refuse(NO_ROOM);
        history.keep(now, OPEN_ACT);
        now.sessions.openFor(session, key, told, now.keys.secretOf(key));
        return accept(session);
    }

    public int close(int session) {
        if (!now.sessions.isOpen(session)) return refuse(NO_SUCH);
        history.keep(now, CLOSE_ACT);
        now.sessions.keys[session] = NONE;
        return accept(0);
    }

    public int unseal(int session, int seal, int word) {
        if (!now.sessions.isOpen(session) || !now.seals.has(seal)) return refuseAny(NO_SUCH);
        history.keep(now, UNSEAL_ACT);
        int found = now.board.isStrained() ? IS_LOCKED : 0;
        if (found == 0 && now.seals.keys[seal] != now.sessions.keys[session]) found = NOT_NOW;
        int by = hear(session, UNSEAL_CALL, seal, word, found);
        if (by == 0 && !isHeldNow(now.seals.policies[seal])) by = NOT_HELD;
        now.sessions.roll(session, UNSEAL_CALL, seal, word, by);
        if (by != 0) return refuseAny(by);
        return accept(now.seals.secrets[seal]);
    }

    public int approve(int session, int policy, int word) {
        if (!now.sessions.isOpen(session) || !now.policies.has(policy)) return refuse(NO_SUCH);
        history.keep(now, APPROVE_ACT);
        int key = now.sessions.keys[session];
        int found = now.board.isStrained() ? IS_LOCKED : 0;
        if (found == 0 && now.policies.isApproved(key, policy)) found = NOT_NOW;
        if (found == 0 && now.policies.approvals >= APPROVALS) found = NO_ROOM;
        int by = hear(session, APPROVE_CALL, policy, word, found);
        now.sessions.roll(session, APPROVE_CALL, policy, word, by);
        if (by != 0) return refuse(by);
        now.policies.appendApproval(key, policy);
        return accept(now.policies.approvedBy(key));
    }

    public int count(int session, int counter, int word) {
        if (counter < 0 || counter >= COUNTERS) return refuse(CANNOT_BE);
        if (!now.sessions.isOpen(session)) return refuse(NO_SUCH);
        history.keep(now, COUNT_ACT);
        int found = now.board.isStrained() ? IS_LOCKED : 0;
        if (found == 0 && now.board.counters[counter] >= MOST_COUNT) found = NO_ROOM;
        int by = hear(session, COUNT_CALL, counter, word, found);
        now.sessions.roll(session, COUNT_CALL, counter, word, by);
        if (by != 0) return refuse(by);
        now.board.counters[counter]++;
        return accept(now.board.counters[counter]);
    }

    public int renew(int session, int secret, int word) {
        if (!now.sessions.isOpen(session)) return refuse(NO_SUCH);
        history.keep(now, RENEW_ACT);
        int found = now.board.isStrained() ? IS_LOCKED : 0;
        int by = hear(session, RENEW_CALL, secret, word, found);
        now.sessions.roll(session, RENEW_CALL, secret, word, by);
        if (by != 0) return refuse(by);
        now.keys.giveSecret(now.sessions.keys[session], secret);
        return accept(0);
    }

    // ---- acts taken back, images

    public int undo() {
        if (history.size == 0) return refuse(NOT_NOW);
        return accept(history.takeBack(now));
    }

    public int image(int k) {
        if (!isImage(k)) return refuse(CANNOT_BE);
        history.keepImage(k, now);
        return accept(now.board.time);
    }

    public int back(int k) {
        if (!isImage(k)) return refuse(CANNOT_BE);
        if (!history.imageKept[k]) return refuse(NOT_NOW);
        history.giveImage(k, now);
        return accept(now.board.time);
    }

    // ---- questions on registers, the log and the claim

    public int register(int register) {
        return isRegister(register) ? now.board.registers[register] : 0;
    }

    public int digest(int set) {
        return isSet(set) ? now.board.digestOf(set) : 0;
    }

    public int replay(int what, int n, int register) {
        Entries told = entriesOf(what);
        if (told == null || n < 0 || n > told.size || !isRegister(register)) return 0;
        return told.retold(register, n, NONE, NONE);
    }

    public int entry(int which, int i, int what) {
        Entries told = entriesOf(which);
        if (told == null || !told.has(i)) return 0;
        if (what == 0) return told.registers[i];
        return what == 1 ? told.numbers[i] : 0;
    }

    public int wrong(int what) {
        Entries told = entriesOf(what);
        return told == null ? NONE : told.notGiven(now.board.registers);
    }

    public int mended() {
        return now.claim.mendedFor(now.board.registers);
    }

    public int age(int register) {
        return isRegister(register) ? now.log.ageOf(register) : NONE;
    }

    public int fresh(int set, int what) {
        if (what == 1) return Numbers.floatBits(now.board.strain);
        if (what != 0 || !isSet(set)) return NONE;
        return Numbers.floatBits(now.log.freshness(set));
    }

    public long mean() {
        return Numbers.doubleBits(now.log.meanNumber());
    }

    // ---- questions on sessions and quotes

    public int word(int session, int call, int number) {
        if (!now.sessions.isOpen(session) || call < UNSEAL_CALL || call > RENEW_CALL) return 0;
        return wordDue(session, call, number);
    }

    public int quote(int slot, int set, int number) {
        int key = now.keys.inSlot(slot);
        if (key == NONE || !isSet(set)) return 0;
        Board board = now.board;
        return Numbers.mix(Numbers.hash(board.digestOf(set), number, board.starts, board.time), now.keys.secretOf(key));
    }

    public boolean checks(int slot, int told, int number, int starts, int time, int quote) {
        int key = now.keys.inSlot(slot);
        if (key == NONE) return false;
        return Numbers.mix(Numbers.hash(told, number, starts, time), now.keys.secretOf(key)) == quote;
    }

    public int audit(int session) {
        return now.sessions.isOpen(session) ? now.sessions.audits[session] : 0;
    }

    public int guess(int slot, int set, int quote) {
        int key = now.keys.inSlot(slot);
        if (key == NONE || !isSet(set)) return NONE;
        // MIX can be turned round, so that just one number gives the quote.
        int hash = Numbers.unmixFirst(quote, now.keys.secretOf(key));
        int beforeTime = Numbers.unmixFirst(hash, now.board.time);
        int beforeStarts = Numbers.unmixFirst(beforeTime, now.board.starts);
        int number = Numbers.unmixSecond(beforeStarts, Numbers.hash(now.board.digestOf(set)));
        return number >= 0 && number < GUESSES ? number : NONE;
    }

    public int locked() {
        return now.board.ticksTillFree();
    }

    // ---- questions on policies and seals

    public int asks(int policy, int what) {
        if (!now.policies.has(policy)) return NONE;
        if (what == 2) return now.policies.names[policy];
        if (what == 3) return now.policies.made[policy];
        if (what == 6) return now.policies.sameName(policy);
        judge.weigh(now, now.board.locality);
        switch (what) {
            case 0: return judge.holds[policy] ? 1 : 0;
            case 1: return judge.outlook[policy];
            case 4: return judge.till[policy];
            case 5: return judge.yet[policy];
            default: return NONE;
        }
    }

    public int why(int policy) {
        if (!now.policies.has(policy)) return NONE;
        judge.weigh(now, now.board.locality);
        return judge.faults[policy];
    }

    public int seals(int what) {
        if (what != 0 && what != 1) return NONE;
        judge.weigh(now, now.board.locality);
        int bits = 0;
        for (int seal = 0; seal < now.seals.size && seal < SEALS; seal++) {
            int policy = now.seals.policies[seal];
            boolean meant = what == 0
                ? now.keys.slotOf(now.seals.keys[seal]) != NONE && judge.lets(policy)
                : judge.isLost(policy);
            if (meant) bits |= 1 << seal;
        }
        return bits;
    }

    public int reach(int seal, int i) {
        if (!now.seals.has(seal)) return NONE;
        int first = localityFor(now.seals.policies[seal]);
        if (first == LOCALITIES) return NONE;
        paper.keys.take(now.keys);
        if (!route.find(paper.keys, now.seals.keys[seal], first)) return NONE;
        if (i == NONE) return route.size;
        return i >= 0 && i < route.size && i < MOVES ? route.moves[i] : NONE;
    }

    public int foreseen(int locality) {
        if (!isLocality(locality)) return NONE;
        paper.take(now);
        paper.restart();
        paper.board.locality = locality;
        for (int i = 0; i < now.claim.size && i < ENTRIES; i++) {
            int register = now.claim.registers[i];
            if (paper.board.mayExtend(register)) paper.writeDown(register, now.claim.numbers[i]);
        }
        judge.weigh(paper, locality);
        int bits = 0;
        for (int seal = 0; seal < now.seals.size && seal < SEALS; seal++) {
            if (judge.lets(now.seals.policies[seal])) bits |= 1 << seal;
        }
        return bits;
    }

    // ---- questions on what there is

    public int orphans() {
        int bits = 0;
        for (int slot = 0; slot < SLOTS; slot++) {
            int key = now.keys.inSlot(slot);
            if (key != NONE && !now.keys.isParentLoaded(key)) bits |= 1 << key;
        }
        return bits;
    }

    public int ofKey(int key, int what) {
        if (!now.keys.has(key)) return NONE;
        switch (what) {
            case 0: return now.keys.parents[key];
            case 1: return now.keys.slotOf(key);
            case 2: return now.keys.swapped[key];
            case 3: return now.policies.approvedBy(key);
            case 4: return now.keys.above(key);
            case 5: return now.seals.below(key);
            default: return NONE;
        }
    }

    public int of(int number, int what) {
        switch (what) {
            case 0: return now.sessions.isOpen(number) ? now.sessions.keys[number] : NONE;
            case 1: return now.seals.has(number) ? now.seals.keys[number] : NONE;
            case 2: return now.seals.has(number) ? now.seals.policies[number] : NONE;
            case 3: return now.policies.has(number) ? now.policies.sorts[number] : NONE;
            case 4: return now.policies.has(number) ? now.policies.as[number] : NONE;
            case 5: return now.keys.hasContext(number) ? now.keys.contextKey[number] : NONE;
            case 6: return now.keys.hasContext(number) ? now.keys.contextSlot[number] : NONE;
            case 7:
                if (!now.keys.hasContext(number)) return NONE;
                return now.keys.mayComeBack(number, now.board.starts) ? 1 : 0;
            default: return NONE;
        }
    }

    public int counts(int what) {
        if (what >= 12 && what < 12 + COUNTERS) return now.board.counters[what - 12];
        if (what >= 18 && what < 18 + REFUSALS) return refusals[what - 18];
        switch (what) {
            case 0: return now.board.locality;
            case 1: return now.board.time;
            case 2: return now.board.starts;
            case 3: return now.log.size;
            case 4: return now.claim.size;
            case 5: return now.keys.size;
            case 6: return now.keys.usedSlots();
            case 7: return now.keys.contexts;
            case 8: return now.policies.size;
            case 9: return now.seals.size;
            case 10: return now.sessions.openBits();
            case 11: return now.sessions.opened;
            case 16: return now.policies.approvals;
            case 17: return history.size;
            default: return NONE;
        }
    }

    public int status() {
        return latestRefusal;
    }

    // ---- what the calls share

    private int accept(int answer) {
        latestRefusal = 0;
        return answer;
    }

    private int refuse(int by) {
        latestRefusal = by;
        int i = -1 - by;
        if (i >= 0 && i < REFUSALS) refusals[i]++;
        return by;
    }

    /** For the calls that may answer any int: the status alone tells of the refusal. */
    private int refuseAny(int by) {
        refuse(by);
        return 0;
    }

    private static boolean isRegister(int n) {
        return n >= 0 && n < REGISTERS;
    }

    private static boolean isSet(int n) {
        return n >= 0 && n < SETS;
    }

    private static boolean isLocality(int n) {
        return n >= 0 && n < LOCALITIES;
    }

    private static boolean isImage(int k) {
        return k >= 0 && k < IMAGES;
    }

    private Entries entriesOf(int which) {
        if (which == 0) return now.log;
        return which == 1 ? now.claim : null;
    }

    private static boolean mayBePolicy(int sort, int a, int b) {
        switch (sort) {
            case STATE_SORT: return isSet(a);
            case COUNTER_SORT: return a >= 0 && a < COUNTERS && b >= 0 && b <= MOST_COUNT;
            case LOCALITY_SORT: return isLocality(a);
            case TIME_SORT: return b >= 0 && b <= LAST_TIME;
            case LOGGED_SORT: return isRegister(a);
            default: return sort == BOTH_SORT || sort == EITHER_SORT || sort == SIGNED_SORT;
        }
    }

    private boolean standsBelowPolicy(int sort, int a, int b) {
        if (sort == SIGNED_SORT) return now.keys.has(a);
        if (sort != BOTH_SORT && sort != EITHER_SORT) return true;
        return now.policies.has(a) && now.policies.has(b);
    }

    private int addPolicy(int sort, int a, int b) {
        Policies policies = now.policies;
        if (policies.size >= POLICIES || policies.madeOf(sort, a, b) > MOST_MADE) return refuse(NO_ROOM);
        history.keep(now, POLICY_ACT);
        return accept(policies.append(sort, a, b));
    }

    private int wordDue(int session, int call, int number) {
        Sessions sessions = now.sessions;
        if (!sessions.isOpen(session)) return 0;
        int heard = Numbers.mix(Numbers.hash(call, number), sessions.nonces[session]);
        return Numbers.mix(heard, now.keys.secretOf(sessions.keys[session]));
    }

    /** What a call is refused by: what was found ahead of its word, else a wrong word, which strains. */
    private int hear(int session, int call, int number, int word, int found) {
        if (found != 0) return found;
        if (word == wordDue(session, call, number)) return 0;
        now.board.strain = now.board.strain + 1f;
        return WRONG_WORD;
    }

    private boolean isHeldNow(int policy) {
        judge.weigh(now, now.board.locality);
        return judge.lets(policy);
    }

    /** The locality to go to so that a policy holds: NONE if none need be, LOCALITIES if none would do. */
    private int localityFor(int policy) {
        judge.weigh(now, now.board.locality);
        if (judge.lets(policy)) return NONE;
        for (int n = 0; n < LOCALITIES; n++) {
            judge.weigh(now, n);
            if (judge.lets(policy)) return n;
        }
        return LOCALITIES;
    }

    // ---- the classes inside

    /** Mixing, and the bits of floats and doubles, which the library that is left has no call for. */
    private static final class Numbers {
        private static final int FACTOR = -1640531535;
        /** FACTOR times this is 1. */
        private static final int UNFACTOR = 244002641;
        private static final int ADDED = 97;
        private static final int HASH_START = 17;

        static int mix(int a, int b) {
            int x = (a ^ ((b << 7) | (b >>> 25))) * FACTOR + ADDED;
            return x ^ (x >>> 15);
        }

        /** The x of MIX as it was ahead of its multiplication. */
        private static int unmixed(int mixed) {
            int x = mixed ^ (mixed >>> 15) ^ (mixed >>> 30);
            return (x - ADDED) * UNFACTOR;
        }

        /** The a of which, with b, MIX is mixed. */
        static int unmixFirst(int mixed, int b) {
            return unmixed(mixed) ^ ((b << 7) | (b >>> 25));
        }

        /** The b of which, with a, MIX is mixed. */
        static int unmixSecond(int mixed, int a) {
            int turned = unmixed(mixed) ^ a;
            return (turned >>> 7) | (turned << 25);
        }

        static int hash(int a) {
            return mix(HASH_START, a);
        }

        static int hash(int a, int b) {
            return mix(mix(HASH_START, a), b);
        }

        static int hash(int a, int b, int c) {
            return mix(mix(mix(HASH_START, a), b), c);
        }

        static int hash(int a, int b, int c, int d) {
            return mix(mix(mix(mix(HASH_START, a), b), c), d);
        }

        /** As Float.floatToIntBits() tells them, of a float that is not below 0. */
        static int floatBits(float value) {
            if (!(value > 0f)) return 0;
            float rest = value;
            int exponent = 0;
            for (int i = 0; i < 128 && rest >= 2f; i++) {
                rest = rest / 2f;
                exponent++;
            }
            for (int i = 0; i < 126 && rest < 1f; i++) {
                rest = rest * 2f;
                exponent--;
            }
            int whole = (int) (rest * 8388608f);
            // Below the least exponent there is no leading one to leave out.
            if (whole < 8388608) return whole;
            return ((exponent + 127) << 23) | (whole - 8388608);
        }

        /** As Double.doubleToLongBits() tells them, of 0 and of doubles from 2 to the -1022 on, below 0 too. */
        static long doubleBits(double value) {
            if (value == 0.0) return 0L;
            double rest = value < 0.0 ? -value : value;
            long exponent = 0L;
            for (int i = 0; i < 1023 && rest >= 2.0; i++) {
                rest = rest / 2.0;
                exponent++;
            }
            for (int i = 0; i < 1022 && rest < 1.0; i++) {
                rest = rest * 2.0;
                exponent--;
            }
            long fraction = (long) (rest * 4503599627370496.0) - 4503599627370496L;
            long bits = ((exponent + 1023L) << 52) | fraction;
            return value < 0.0 ? bits | (1L << 63) : bits;
        }
    }

    /** Registers, counters, and what stands once: locality, time, starts, strain. */
    private static final class Board {
        final int[] registers = new int[REGISTERS];
        final int[] counters = new int[COUNTERS];
        int locality;
        int time;
        int starts;
        float strain;

        Board() {
            for (int r = GUARDED; r < REGISTERS; r++) registers[r] = -1;
            starts = 1;
        }

        static int atFirst(int register) {
            return register < GUARDED ? 0 : -1;
        }

        void take(Board from) {
            System.arraycopy(from.registers, 0, registers, 0, REGISTERS);
            System.arraycopy(from.counters, 0, counters, 0, COUNTERS);
            locality = from.locality;
            time = from.time;
            starts = from.starts;
            strain = from.strain;
        }

        void restart() {
            for (int r = 0; r < REGISTERS; r++) registers[r] = atFirst(r);
            locality = 0;
            starts++;
        }

        boolean mayExtend(int register) {
            return register < GUARDED || locality >= 1;
        }

        void extendBy(int register, int number) {
            if (!isRegister(register)) return;
            registers[register] = Numbers.mix(registers[register], number);
        }

        int digestOf(int set) {
            int hash = Numbers.HASH_START;
            for (int r = 0; r < REGISTERS; r++) {
                if ((set & (1 << r)) != 0) hash = Numbers.mix(hash, registers[r]);
            }
            return hash;
        }

        void passTick() {
            time++;
            strain = strain * 0.75f;
        }

        boolean isStrained() {
            return strain >= (float) LOCKING_STRAIN;
        }

        int ticksTillFree() {
            float left = strain;
            int ticks = 0;
            // A wrong word is heard below 3 only, so that strain stays below 4: a thousand is far above the need.
            while (left >= (float) LOCKING_STRAIN && ticks < 1000) {
                left = left * 0.75f;
                ticks++;
            }
            return ticks;
        }
    }

    /** The log, or the claim. */
    private static final class Entries {
        final int[] registers = new int[ENTRIES];
        final int[] numbers = new int[ENTRIES];
        int size;

        void take(Entries from) {
            System.arraycopy(from.registers, 0, registers, 0, ENTRIES);
            System.arraycopy(from.numbers, 0, numbers, 0, ENTRIES);
            size = from.size;
        }

        boolean has(int i) {
            return i >= 0 && i < size && i < ENTRIES;
        }

        boolean isFull() {
            return size >= ENTRIES;
        }

        void append(int register, int number) {
            if (size < 0 || size >= ENTRIES) return;
            registers[size] = register;
            numbers[size] = number;
            size++;
        }

        boolean hasEntry(int register, int number) {
            for (int i = 0; i < size && i < ENTRIES; i++) {
                if (registers[i] == register && numbers[i] == number) return true;
            }
            return false;
        }

        /** What the first n entries make of a register, entry left counted as none of it, entry joined as one of it. */
        int retold(int register, int n, int left, int joined) {
            int value = Board.atFirst(register);
            for (int i = 0; i < n && i < ENTRIES; i++) {
                boolean counts = registers[i] == register && i != left || i == joined;
                if (counts) value = Numbers.mix(value, numbers[i]);
            }
            return value;
        }

        /** What all entries make of a register, entries i and i and 1 exchanged. */
        private int exchanged(int register, int i) {
            int value = Board.atFirst(register);
            for (int at = 0; at < size && at < ENTRIES; at++) {
                int from = at == i ? i + 1 : at == i + 1 ? i : at;
                if (has(from) && registers[from] == register) value = Numbers.mix(value, numbers[from]);
            }
            return value;
        }

        int notGiven(int[] due) {
            int bits = 0;
            for (int r = 0; r < REGISTERS && r < due.length; r++) {
                if (retold(r, size, NONE, NONE) != due[r]) bits |= 1 << r;
            }
            return bits;
        }

        int mendedFor(int[] due) {
            int wrongBits = notGiven(due);
            if (wrongBits == 0) return 0;
            // Two registers at most are changed by one mending, so more wrong ones can't be mended.
            if (Integer.bitCount(wrongBits) > 2) return NONE;
            int mending = leavingOut(due, wrongBits);
            if (mending == NONE) mending = exchanging(due, wrongBits);
            if (mending == NONE) mending = moving(due, wrongBits);
            return mending;
        }

        private int leavingOut(int[] due, int wrongBits) {
            for (int i = 0; i < size && i < ENTRIES; i++) {
                int r = registers[i];
                if (wrongBits == 1 << r && isDue(due, r, retold(r, size, i, NONE))) return 100 + i;
            }
            return NONE;
        }

        private int exchanging(int[] due, int wrongBits) {
            for (int i = 0; i + 1 < size && i + 1 < ENTRIES; i++) {
                int r = registers[i];
                boolean matters = r == registers[i + 1] && wrongBits == 1 << r;
                if (matters && isDue(due, r, exchanged(r, i))) return 200 + i;
            }
            return NONE;
        }

        private int moving(int[] due, int wrongBits) {
            for (int i = 0; i < size && i < ENTRIES; i++) {
                int from = registers[i];
                if (!isDue(due, from, retold(from, size, i, NONE))) continue;
                for (int to = 0; to < REGISTERS; to++) {
                    boolean enough = (wrongBits & ~(1 << from | 1 << to)) == 0;
                    if (to != from && enough && isDue(due, to, retold(to, size, NONE, i))) return 300 + 10 * i + to;
                }
            }
            return NONE;
        }

        private static boolean isDue(int[] due, int register, int value) {
            return register >= 0 && register < due.length && due[register] == value;
        }

        int ageOf(int register) {
            int age = 0;
            for (int i = Math.min(size, ENTRIES) - 1; i >= 0 && registers[i] != register; i--) age++;
            return age;
        }

        float freshness(int set) {
            float sum = 0f;
            int many = 0;
            for (int r = 0; r < REGISTERS; r++) {
                if ((set & (1 << r)) != 0) {
                    sum = sum + 1f / (float) (ageOf(r) + 1);
                    many++;
                }
            }
            return many == 0 ? 0f : sum / (float) many;
        }

        double meanNumber() {
            double sum = 0.0;
            for (int i = 0; i < size && i < ENTRIES; i++) sum = sum + (double) numbers[i];
            return size <= 0 ? 0.0 : sum / (double) size;
        }
    }

    /** Keys, the slots that hold them, the contexts of their swapping. */
    private static final class Keys {
        final int[] parents = new int[KEYS];
        final int[] secrets = new int[KEYS];
        final int[] swapped = new int[KEYS];
        int size;
        final int[] slots = new int[SLOTS];
        final int[] contextStart = new int[CONTEXTS];
        final int[] contextKey = new int[CONTEXTS];
        final int[] contextSlot = new int[CONTEXTS];
        final int[] contextUsed = new int[CONTEXTS];
        int contexts;

        Keys() {
            for (int slot = 0; slot < SLOTS; slot++) slots[slot] = NONE;
        }

        void take(Keys from) {
            System.arraycopy(from.parents, 0, parents, 0, KEYS);
            System.arraycopy(from.secrets, 0, secrets, 0, KEYS);
            System.arraycopy(from.swapped, 0, swapped, 0, KEYS);
            size = from.size;
            System.arraycopy(from.slots, 0, slots, 0, SLOTS);
            System.arraycopy(from.contextStart, 0, contextStart, 0, CONTEXTS);
            System.arraycopy(from.contextKey, 0, contextKey, 0, CONTEXTS);
            System.arraycopy(from.contextSlot, 0, contextSlot, 0, CONTEXTS);
            System.arraycopy(from.contextUsed, 0, contextUsed, 0, CONTEXTS);
            contexts = from.contexts;
        }

        void unloadAll() {
            for (int slot = 0; slot < SLOTS; slot++) slots[slot] = NONE;
            for (int key = 0; key < KEYS; key++) swapped[key] = 0;
        }

        boolean has(int key) {
            return key >= 0 && key < size && key < KEYS;
        }

        boolean hasContext(int context) {
            return context >= 0 && context < contexts && context < CONTEXTS;
        }

        int append(int parent, int secret) {
            if (size < 0 || size >= KEYS) return NONE;
            parents[size] = parent;
            secrets[size] = secret;
            swapped[size] = 0;
            size++;
            return size - 1;
        }

        int secretOf(int key) {
            return has(key) ? secrets[key] : 0;
        }

        void giveSecret(int key, int secret) {
            if (has(key)) secrets[key] = secret;
        }

        boolean isSwapped(int key) {
            return has(key) && swapped[key] != 0;
        }

        int parentOf(int key) {
            return has(key) ? parents[key] : NONE;
        }

        /** The key in a slot; NONE if there is no such slot or no key in it. */
        int inSlot(int slot) {
            return slot >= 0 && slot < SLOTS ? slots[slot] : NONE;
        }

        int slotOf(int key) {
            for (int slot = 0; slot < SLOTS; slot++) {
                if (key != NONE && slots[slot] == key) return slot;
            }
            return NONE;
        }

        int freeSlot() {
            for (int slot = 0; slot < SLOTS; slot++) {
                if (slots[slot] == NONE) return slot;
            }
            return NONE;
        }

        int freeSlots() {
            return SLOTS - Integer.bitCount(usedSlots());
        }

        int usedSlots() {
            int bits = 0;
            for (int slot = 0; slot < SLOTS; slot++) {
                if (slots[slot] != NONE) bits |= 1 << slot;
            }
            return bits;
        }

        void put(int slot, int key) {
            if (slot >= 0 && slot < SLOTS) slots[slot] = key;
        }

        /** A key below none wants no parent. */
        boolean isParentLoaded(int key) {
            int parent = parentOf(key);
            return parent == NONE || slotOf(parent) != NONE;
        }

        boolean mayLoad(int key) {
            return slotOf(key) == NONE && !isSwapped(key) && isParentLoaded(key);
        }

        int above(int key) {
            int many = 0;
            int at = parentOf(key);
            while (at != NONE && many < KEYS) {
                many++;
                at = parentOf(at);
            }
            return many;
        }

        int appendContext(int start, int key, int slot) {
            if (contexts < 0 || contexts >= CONTEXTS || !has(key)) return NONE;
            contextStart[contexts] = start;
            contextKey[contexts] = key;
            contextSlot[contexts] = slot;
            contextUsed[contexts] = 0;
            swapped[key] = 1;
            contexts++;
            return contexts - 1;
        }

        int latestContext(int key) {
            for (int c = Math.min(contexts, CONTEXTS) - 1; c >= 0; c--) {
                if (contextKey[c] == key) return c;
            }
            return NONE;
        }

        int slotOfContext(int context) {
            return hasContext(context) ? contextSlot[context] : NONE;
        }

        boolean mayComeBack(int context, int starts) {
            if (!hasContext(context) || contextUsed[context] != 0 || contextStart[context] != starts) return false;
            int key = contextKey[context];
            return isSwapped(key) && latestContext(key) == context;
        }

        void comeBack(int context) {
            if (!hasContext(context)) return;
            int key = contextKey[context];
            if (!has(key)) return;
            put(contextSlot[context], key);
            swapped[key] = 0;
            contextUsed[context] = 1;
        }
    }

    /** Policies as they were told, and which of them keys have approved. */
    private static final class Policies {
        final int[] sorts = new int[POLICIES];
        final int[] as = new int[POLICIES];
        final int[] bs = new int[POLICIES];
        final int[] made = new int[POLICIES];
        final int[] names = new int[POLICIES];
        int size;
        final int[] approvers = new int[APPROVALS];
        final int[] approved = new int[APPROVALS];
        int approvals;

        void take(Policies from) {
            System.arraycopy(from.sorts, 0, sorts, 0, POLICIES);
            System.arraycopy(from.as, 0, as, 0, POLICIES);
            System.arraycopy(from.bs, 0, bs, 0, POLICIES);
            System.arraycopy(from.made, 0, made, 0, POLICIES);
            System.arraycopy(from.names, 0, names, 0, POLICIES);
            size = from.size;
            System.arraycopy(from.approvers, 0, approvers, 0, APPROVALS);
            System.arraycopy(from.approved, 0, approved, 0, APPROVALS);
            approvals = from.approvals;
        }

        boolean has(int policy) {
            return policy >= 0 && policy < size && policy < POLICIES;
        }

        static boolean isJoining(int sort) {
            return sort == BOTH_SORT || sort == EITHER_SORT;
        }

        int madeOf(int sort, int a, int b) {
            return isJoining(sort) && has(a) && has(b) ? 1 + made[a] + made[b] : 1;
        }

        private int nameOf(int sort, int a, int b) {
            if (isJoining(sort) && has(a) && has(b)) return Numbers.hash(sort, names[a], names[b]);
            return Numbers.hash(sort, a, b);
        }

        int append(int sort, int a, int b) {
            if (size < 0 || size >= POLICIES) return NONE;
            sorts[size] = sort;
            as[size] = a;
            bs[size] = b;
            made[size] = madeOf(sort, a, b);
            names[size] = nameOf(sort, a, b);
            size++;
            return size - 1;
        }

        int sameName(int policy) {
            if (!has(policy)) return 0;
            int bits = 0;
            for (int p = 0; p < size && p < POLICIES; p++) {
                if (names[p] == names[policy]) bits |= 1 << p;
            }
            return bits;
        }

        boolean isApproved(int key, int policy) {
            for (int i = 0; i < approvals && i < APPROVALS; i++) {
                if (approvers[i] == key && approved[i] == policy) return true;
            }
            return false;
        }

        int approvedBy(int key) {
            int many = 0;
            for (int i = 0; i < approvals && i < APPROVALS; i++) {
                if (approvers[i] == key) many++;
            }
            return many;
        }

        void appendApproval(int key, int policy) {
            if (approvals < 0 || approvals >= APPROVALS) return;
            approvers[approvals] = key;
            approved[approvals] = policy;
            approvals++;
        }
    }

    private static final class Seals {
        final int[] secrets = new int[SEALS];
        final int[] keys = new int[SEALS];
        final int[] policies = new int[SEALS];
        int size;

        void take(Seals from) {
            System.arraycopy(from.secrets, 0, secrets, 0, SEALS);
            System.arraycopy(from.keys, 0, keys, 0, SEALS);
            System.arraycopy(from.policies, 0, policies, 0, SEALS);
            size = from.size;
        }

        boolean has(int seal) {
            return seal >= 0 && seal < size && seal < SEALS;
        }

        int append(int secret, int key, int policy) {
            if (size < 0 || size >= SEALS) return NONE;
            secrets[size] = secret;
            keys[size] = key;
            policies[size] = policy;
            size++;
            return size - 1;
        }

        int below(int key) {
            int bits = 0;
            for (int seal = 0; seal < size && seal < SEALS; seal++) {
                if (keys[seal] == key) bits |= 1 << seal;
            }
            return bits;
        }
    }

    /** A session whose key is NONE is not open. */
    private static final class Sessions {
        final int[] keys = new int[SESSIONS];
        final int[] nonces = new int[SESSIONS];
        final int[] audits = new int[SESSIONS];
        int opened;

        Sessions() {
            for (int session = 0; session < SESSIONS; session++) keys[session] = NONE;
        }

        void take(Sessions from) {
            System.arraycopy(from.keys, 0, keys, 0, SESSIONS);
            System.arraycopy(from.nonces, 0, nonces, 0, SESSIONS);
            System.arraycopy(from.audits, 0, audits, 0, SESSIONS);
            opened = from.opened;
        }

        boolean isOpen(int session) {
            return session >= 0 && session < SESSIONS && keys[session] != NONE;
        }

        int firstClosed() {
            for (int session = 0; session < SESSIONS; session++) {
                if (keys[session] == NONE) return session;
            }
            return NONE;
        }

        int openBits() {
            int bits = 0;
            for (int session = 0; session < SESSIONS; session++) {
                if (keys[session] != NONE) bits |= 1 << session;
            }
            return bits;
        }

        void openFor(int session, int key, int told, int secret) {
            if (session < 0 || session >= SESSIONS) return;
            keys[session] = key;
            nonces[session] = Numbers.hash(told, opened, secret);
            audits[session] = 0;
            opened++;
        }

        void closeOn(int key) {
            for (int session = 0; session < SESSIONS; session++) {
                if (keys[session] == key) keys[session] = NONE;
            }
        }

        void closeAll() {
            for (int session = 0; session < SESSIONS; session++) keys[session] = NONE;
        }

        void roll(int session, int call, int number, int word, int by) {
            if (!isOpen(session)) return;
            nonces[session] = Numbers.mix(nonces[session], word);
            audits[session] = Numbers.mix(audits[session], Numbers.hash(call, number, by));
        }
    }

    /** All that an undo or an image brings back. */
    private static final class State {
        final Board board = new Board();
        final Entries log = new Entries();
        final Entries claim = new Entries();
        final Keys keys = new Keys();
        final Policies policies = new Policies();
        final Seals seals = new Seals();
        final Sessions sessions = new Sessions();

        void take(State from) {
            board.take(from.board);
            log.take(from.log);
            claim.take(from.claim);
            keys.take(from.keys);
            policies.take(from.policies);
            seals.take(from.seals);
            sessions.take(from.sessions);
        }

        void restart() {
            board.restart();
            log.size = 0;
            keys.unloadAll();
            sessions.closeAll();
        }

        void writeDown(int register, int number) {
            board.extendBy(register, number);
            log.append(register, number);
        }

        void unload(int slot, int key) {
            keys.put(slot, NONE);
            sessions.closeOn(key);
        }
    }

    /**
     * Weighs all policies of a state at once, from the first on: a policy is joined of earlier ones alone,
     * so that each is settled ahead of those that ask for it.
     */
    private static final class Judge {
        private final int[] given = new int[REGISTERS];
        /** As in what a key has approved, where whatever is signed does not hold. */
        private final boolean[] holdsUnsigned = new boolean[POLICIES];
        private final int[] tillUnsigned = new int[POLICIES];
        final boolean[] holds = new boolean[POLICIES];
        final int[] till = new int[POLICIES];
        final int[] outlook = new int[POLICIES];
        final int[] yet = new int[POLICIES];
        final int[] faults = new int[POLICIES];
        private int weighed;

        void weigh(State state, int locality) {
            weighed = Math.min(state.policies.size, POLICIES);
            for (int r = 0; r < REGISTERS; r++) given[r] = state.log.retold(r, state.log.size, NONE, NONE);
            for (int p = 0; p < weighed; p++) settleUnsigned(state, locality, p);
            for (int p = 0; p < weighed; p++) settleWhole(state, p);
        }

        /** Whether a seal's policy, if any, holds. */
        boolean lets(int policy) {
            return policy == NONE || policy >= 0 && policy < weighed && holds[policy];
        }

        boolean isLost(int policy) {
            return policy >= 0 && policy < weighed && outlook[policy] == 2;
        }

        private void settleUnsigned(State state, int locality, int p) {
            int sort = state.policies.sorts[p];
            if (Policies.isJoining(sort)) {
                join(state.policies, p, holdsUnsigned, tillUnsigned);
                return;
            }
            holdsUnsigned[p] = holdsAlone(state, locality, p);
            tillUnsigned[p] = sort == TIME_SORT ? state.policies.bs[p] : holdsUnsigned[p] ? FOR_EVER : NONE;
        }

        private void settleWhole(State state, int p) {
            Policies policies = state.policies;
            int sort = policies.sorts[p];
            if (Policies.isJoining(sort)) {
                join(policies, p, holds, till);
                foresee(policies, p);
                return;
            }
            holds[p] = holdsUnsigned[p];
            till[p] = tillUnsigned[p];
            if (sort == SIGNED_SORT) countSignatures(policies, p);
            outlook[p] = holds[p] ? 0 : outlookAlone(sort, policies.as[p], state.board.registers);
            yet[p] = holds[p] ? 0 : 1;
            faults[p] = holds[p] ? 0 : 1 << p;
        }

        private void join(Policies policies, int p, boolean[] holding, int[] tills) {
            int a = policies.as[p];
            int b = policies.bs[p];
            if (!isEarlier(a, p) || !isEarlier(b, p)) return;
            boolean both = policies.sorts[p] == BOTH_SORT;
            holding[p] = both ? holding[a] && holding[b] : holding[a] || holding[b];
            tills[p] = both ? Math.min(tills[a], tills[b]) : Math.max(tills[a], tills[b]);
        }

        private void foresee(Policies policies, int p) {
            int a = policies.as[p];
            int b = policies.bs[p];
            if (!isEarlier(a, p) || !isEarlier(b, p)) return;
            boolean both = policies.sorts[p] == BOTH_SORT;
            outlook[p] = both ? Math.max(outlook[a], outlook[b]) : Math.min(outlook[a], outlook[b]);
            yet[p] = both ? yet[a] + yet[b] : Math.min(yet[a], yet[b]);
            faults[p] = holds[p] ? 0 : faults[a] | faults[b];
        }

        private static boolean isEarlier(int policy, int p) {
            return policy >= 0 && policy < p && p < POLICIES;
        }

        private boolean holdsAlone(State state, int locality, int p) {
            int a = state.policies.as[p];
            int b = state.policies.bs[p];
            switch (state.policies.sorts[p]) {
                case STATE_SORT: return state.board.digestOf(a) == b;
                case COUNTER_SORT: return a >= 0 && a < COUNTERS && state.board.counters[a] <= b;
                case LOCALITY_SORT: return locality >= a;
                case TIME_SORT: return state.board.time <= b;
                case LOGGED_SORT: return isGiven(a, state.board.registers) && state.log.hasEntry(a, b);
                default: return false;
            }
        }

        private boolean isGiven(int register, int[] registers) {
            return isRegister(register) && register < registers.length && given[register] == registers[register];
        }

        private void countSignatures(Policies policies, int p) {
            int key = policies.as[p];
            for (int i = 0; i < policies.approvals && i < APPROVALS; i++) {
                int approved = policies.approved[i];
                if (policies.approvers[i] == key && approved >= 0 && approved < weighed) {
                    holds[p] = holds[p] || holdsUnsigned[approved];
                    till[p] = Math.max(till[p], tillUnsigned[approved]);
                }
            }
        }

        /** Of a policy that is not joined and does not hold. */
        private int outlookAlone(int sort, int a, int[] registers) {
            switch (sort) {
                case STATE_SORT: return (a & ((1 << GUARDED) - 1)) != 0 ? 2 : 1;
                case COUNTER_SORT: return 2;
                case TIME_SORT: return 2;
                case LOGGED_SORT: return a < GUARDED && !isGiven(a, registers) ? 2 : 1;
                default: return 1;
            }
        }
    }

    /**
     * The way to reach a seal. How far a key is from being loaded can be reckoned: each key of its chain up to
     * the nearest that is loaded, swapped or below none comes in by one move, and slots that are wanting are
     * flushed, one by one. The first way is the one that takes, each time, the least move that brings it nearer.
     */
    private static final class Route {
        final int[] moves = new int[MOVES];
        int size;

        /** The keys are those of a paper and are moved on it. */
        boolean find(Keys keys, int key, int locality) {
            size = 0;
            if (locality != NONE) note(locality);
            int left = distance(keys, key);
            if (size + left > MOVES) return false;
            while (left > 0 && size < MOVES) {
                int slot = slotToFlush(keys, key, left);
                if (slot != NONE) note(10 + slot);
                else bringIn(keys, key);
                left--;
            }
            return true;
        }

        private void note(int move) {
            if (size < 0 || size >= MOVES) return;
            moves[size] = move;
            size++;
        }

        private static int distance(Keys keys, int key) {
            int adding = 0;
            int at = key;
            while (at != NONE && keys.slotOf(at) == NONE && adding < KEYS) {
                adding++;
                if (keys.isSwapped(at)) {
                    int slot = keys.slotOfContext(keys.latestContext(at));
                    int wanted = keys.inSlot(slot) != NONE ? 1 : 0;
                    return adding + Math.max(wanted, adding - keys.freeSlots());
                }
                at = keys.parentOf(at);
            }
            return adding + Math.max(0, adding - keys.freeSlots());
        }

        /** The lowest slot whose flushing brings the key nearer, flushed; NONE if there is none. */
        private static int slotToFlush(Keys keys, int key, int left) {
            for (int slot = 0; slot < SLOTS; slot++) {
                int held = keys.inSlot(slot);
                if (held != NONE) {
                    keys.put(slot, NONE);
                    if (distance(keys, key) < left) return slot;
                    keys.put(slot, held);
                }
            }
            return NONE;
        }

        /** The uppermost key of the chain that is not loaded comes in. */
        private void bringIn(Keys keys, int key) {
            int at = key;
            for (int i = 0; i < KEYS && !keys.isSwapped(at) && !keys.isParentLoaded(at); i++) at = keys.parentOf(at);
            if (keys.isSwapped(at)) {
                int context = keys.latestContext(at);
                keys.comeBack(context);
                note(40 + context);
                return;
            }
            keys.put(keys.freeSlot(), at);
            note(20 + at);
        }
    }

    /** States as they were ahead of the latest acts, in a ring, and images. */
    private static final class History {
        private final State[] states = new State[UNDOS];
        private final int[] acts = new int[UNDOS];
        private int next;
        int size;
        private final State[] images = new State[IMAGES];
        final boolean[] imageKept = new boolean[IMAGES];

        History() {
            for (int i = 0; i < UNDOS; i++) states[i] = new State();
            for (int k = 0; k < IMAGES; k++) images[k] = new State();
        }

        void keep(State now, int act) {
            if (next < 0 || next >= UNDOS) return;
            State kept = states[next];
            if (kept == null) return;
            kept.take(now);
            acts[next] = act;
            next = (next + 1) % UNDOS;
            size = Math.min(size + 1, UNDOS);
        }

        int takeBack(State now) {
            int latest = (next + UNDOS - 1) % UNDOS;
            if (latest < 0 || latest >= UNDOS) return NONE;
            State kept = states[latest];
            if (kept == null) return NONE;
            now.take(kept);
            next = latest;
            size--;
            return acts[latest];
        }

        void keepImage(int k, State now) {
            if (!isImage(k)) return;
            State kept = images[k];
            if (kept == null) return;
            kept.take(now);
            imageKept[k] = true;
        }

        void giveImage(int k, State now) {
            if (!isImage(k)) return;
            State kept = images[k];
            if (kept == null) return;
            now.take(kept);
            size = 0;
        }
    }
}
