import java.lang.reflect.Method;
import java.util.ArrayList;
import java.util.Arrays;
import java.util.List;
import java.util.Random;

/** Long random runs of all calls, the class held against the naive model, answer by answer. */
public final class ModelTest {
    private static final int CALLS = 512;

    /** How each call's numbers are drawn; a letter a number. */
    private static final String[] FACE = {
        "start", "locality l", "tick t", "measure rn", "extend rn", "reset r", "claim rn", "claimAs w", "forge en",
        "key sn", "load wk", "flush s", "swapOut s", "swapIn c", "drop k", "policy oab", "policyNow z", "seal snp",
        "open sn", "close x", "unseal x1W", "approve xpW", "count xuW", "renew xnW", "undo", "image i", "back i",
        "register r", "digest z", "replay wer", "entry wew", "wrong w", "mended", "word xvn", "quote szn",
        "checks sDGSTQ", "asks py", "why p", "seals w", "reach 1m", "foreseen l", "audit x", "guess szQ", "orphans",
        "ofKey ky", "of gy", "age r", "fresh zw", "mean", "locked", "counts C", "status"};
    private static final int ACTS = 27;

    private final Random random;
    private final List<String> names = new ArrayList<>();
    private final List<String> kinds = new ArrayList<>();
    private final List<Method> ours = new ArrayList<>();
    private final List<Method> models = new ArrayList<>();
    private StartLedger x;
    private Model m;
    private int[] weights;

    private ModelTest(long seed) throws ReflectiveOperationException {
        random = new Random(seed);
        for (String line : FACE) {
            String[] parts = line.split(" ");
            names.add(parts[0]);
            kinds.add(parts.length == 1 ? "" : parts[1]);
            Class<?>[] types = new Class<?>[kinds.get(kinds.size() - 1).length()];
            Arrays.fill(types, int.class);
            ours.add(StartLedger.class.getMethod(parts[0], types));
            models.add(Model.class.getDeclaredMethod(parts[0], types));
        }
    }

    private int upTo(int least, int most) {
        return least + random.nextInt(most - least + 1);
    }

    /** Mostly one that there is, at times one beyond either end. */
    private int oneOf(int size) {
        return random.nextInt(12) == 0 ? upTo(-2, size + 1) : random.nextInt(Math.max(1, size));
    }

    /** Mostly one of the bits that are set, at times any number near. */
    private int bitOf(int bits, int size) {
        if (bits == 0 || random.nextInt(10) == 0) return upTo(-1, size);
        int bit = random.nextInt(size);
        while ((bits >> bit & 1) == 0) bit = random.nextInt(size);
        return bit;
    }

    private int anyInt() {
        int[] odd = {0, 1, -1, Integer.MIN_VALUE, Integer.MAX_VALUE};
        int way = random.nextInt(8);
        return way == 0 ? random.nextInt() : way == 1 ? odd[random.nextInt(odd.length)] : random.nextInt(4);
    }

    /** One that hardly any call can take, but for those that take all. */
    private int farInt() {
        int[] far = {Integer.MIN_VALUE, Integer.MIN_VALUE + 1, Integer.MAX_VALUE, Integer.MAX_VALUE - 1, 1 << 16, -256};
        return random.nextBoolean() ? random.nextInt() : far[random.nextInt(far.length)];
    }

    private int set() {
        int[] odd = {-1, 256, 0, 255, 64, 128, 192, 1, 65};
        return random.nextBoolean() ? odd[random.nextInt(odd.length)] : random.nextInt(256);
    }

    private int register() {
        return random.nextInt(3) == 0 ? oneOf(8) : new int[] {0, 1, 6, 7}[random.nextInt(4)];
    }

    private int draw(char kind, int[] before, String name) {
        switch (kind) {
            case 'l': return oneOf(4);
            case 't': return random.nextInt(4) == 0 ? upTo(-1, 101) : upTo(1, 3);
            case 'r': return register();
            case 'n': return anyInt();
            case 'w': return random.nextInt(10) == 0 ? upTo(-1, 3) : random.nextInt(5) == 0 ? 1 : 0;
            case 'e': return oneOf(Math.max(m.counts(3), m.counts(4)));
            case 's': return name.equals("key") && random.nextInt(3) == 0 ? -1 : bitOf(m.counts(6), 3);
            case 'k': return oneOf(m.counts(5));
            case 'c': return random.nextBoolean() ? m.counts(7) - 1 : oneOf(m.counts(7));
            case 'o': return oneOf(8);
            case 'a': return policyNumber(before[0], true);
            case 'b': return policyNumber(before[0], false);
            case 'z': return set();
            case 'p': return random.nextInt(6) == 0 ? -1 : oneOf(m.counts(8));
            case 'x': return bitOf(m.counts(10), 4);
            case '1': return oneOf(m.counts(9));
            case 'u': return oneOf(4);
            case 'i': return oneOf(2);
            case 'v': return upTo(0, 5);
            case 'y': return upTo(-1, 8);
            case 'm': return upTo(-2, 6);
            case 'g': return upTo(-1, 13);
            case 'C': return upTo(-1, 26);
            case 'W': return word(name, before);
            case 'D': return m.digest(set());
            case 'G': return random.nextInt(1000);
            case 'S': return m.counts(2);
            case 'T': return m.counts(1);
            case 'Q': return quote(name, before);
            default: throw new IllegalStateException("kind " + kind);
        }
    }

    private int policyNumber(int sort, boolean first) {
        switch (sort) {
            case 0: return first ? set() : m.digest(set());
            case 1: return first ? oneOf(4) : random.nextInt(9) == 0 ? upTo(9999, 10000) : upTo(-1, 3);
            case 2: return oneOf(4);
            case 3: return oneOf(m.counts(8));
            case 4: return oneOf(m.counts(8));
            case 5: return random.nextInt(9) == 0 ? upTo(99_999, 100_000) : m.counts(1) + upTo(-3, 9);
            case 6: return oneOf(m.counts(5));
            default: return first ? register() : anyInt();
        }
    }

    private int word(String name, int[] before) {
        if (random.nextInt(9) == 0) return anyInt();
        int call = Arrays.asList("unseal", "approve", "count", "renew").indexOf(name) + 1;
        return m.word(before[0], call, before[1]);
    }

    private int quote(String name, int[] before) {
        if (random.nextInt(4) == 0) return anyInt();
        if (name.equals("guess")) return m.quote(before[0], before[1], upTo(-2, 1002));
        for (int set = 0; set < 256; set++) {
            if (m.digest(set) == before[1]) return m.quote(before[0], set, before[2]);
        }
        return 0;
    }

    private static long asLong(Object answer) {
        if (answer instanceof Boolean b) return b ? 1 : 0;
        return ((Number) answer).longValue();
    }

    /** One call on both; false if the answers differ. */
    private boolean same(int call, int[] numbers) throws ReflectiveOperationException {
        Object[] args = new Object[numbers.length];
        for (int i = 0; i < args.length; i++) args[i] = numbers[i];
        long got = asLong(ours.get(call).invoke(x, args));
        long want = asLong(models.get(call).invoke(m, args));
        if (got == want && x.status() == m.status()) return true;
        System.out.println(names.get(call) + Arrays.toString(numbers) + " answered " + got + " (status " + x.status()
            + "), the model " + want + " (status " + m.status() + ")");
        return false;
    }

    private boolean sameRandom(int call) throws ReflectiveOperationException {
        String kind = kinds.get(call);
        int[] numbers = new int[kind.length()];
        for (int i = 0; i < numbers.length; i++) {
            boolean far = random.nextInt(40) == 0;
            numbers[i] = far ? farInt() : draw(kind.charAt(i), numbers, names.get(call));
        }
        return same(call, numbers);
    }

    private int drawCall() {
        int sum = 0;
        for (int w : weights) sum += w;
        int n = random.nextInt(sum);
        int call = 0;
        while (n >= weights[call]) n -= weights[call++];
        return call;
    }

    /** Runs differ in what they do much of, so that each comes to corners of its own. */
    private void drawWeights(boolean searches) {
        int[] likely = {0, 1, 1, 3, 10};
        weights = new int[FACE.length];
        for (int i = 0; i < weights.length; i++) weights[i] = i < ACTS ? likely[random.nextInt(likely.length)] : 1;
        weights[names.indexOf("start")] = random.nextInt(3) == 0 ? 1 : 0;
        weights[names.indexOf("back")] = random.nextInt(3) == 0 ? 1 : 0;
        weights[names.indexOf("undo")] = random.nextInt(3);
        weights[names.indexOf("key")] = 3;
        weights[names.indexOf("load")] = 12;
        weights[names.indexOf("open")] = 5;
        weights[names.indexOf("seal")] = 3;
        weights[names.indexOf("flush")] = random.nextInt(3);
        weights[names.indexOf("close")] = random.nextInt(3);
        weights[names.indexOf("policy")] = Math.max(3, weights[names.indexOf("policy")]);
        weights[names.indexOf("reach")] = searches ? 2 : 0;
    }

    private boolean run(boolean searches) throws ReflectiveOperationException {
        x = new StartLedger();
        m = new Model();
        drawWeights(searches);
        for (int i = 0; i < CALLS; i++) if (!sameRandom(drawCall())) return false;
        return true;
    }

    private boolean same(String name, int... numbers) throws ReflectiveOperationException {
        return same(names.indexOf(name), numbers);
    }

    /** Loads a key, and what is above it as far as it must; slots are flushed for it. */
    private boolean bring(int key) throws ReflectiveOperationException {
        if (m.ofKey(key, 1) != -1) return true;
        int parent = m.ofKey(key, 0);
        if (parent != -1 && !bring(parent)) return false;
        int slot = parent != -1 && m.ofKey(parent, 1) == 0 ? 1 : 0;
        if (m.counts(6) == 7 && !same("flush", slot)) return false;
        return same("load", 0, key);
    }

    /** Keys in a tree with a seal below each, loaded and swapped at random, and the way to each seal, i by i. */
    private boolean runOfWays() throws ReflectiveOperationException {
        x = new StartLedger();
        m = new Model();
        int deep = random.nextInt(4);
        for (int n = 0; n < 4; n++) if (!same("policy", n < 3 ? 2 : 5, n, 0)) return false;
        for (int k = 0; k < 10; k++) {
            int parent = random.nextInt(4) < deep ? k - 1 : upTo(-1, k - 1);
            if (parent != -1 && !bring(parent)) return false;
            if (!same("key", m.ofKey(parent, 1), k) || !bring(k)) return false;
            int policy = random.nextInt(3) == 0 ? random.nextInt(4) : -1;
            if (!same("seal", m.ofKey(k, 1), k, policy)) return false;
        }
        for (int round = 0; round < 4; round++) {
            if (random.nextInt(3) > 0 && !same("start")) return false;
            if (random.nextInt(3) > 0 && !same("locality", random.nextInt(4))) return false;
            for (int i = random.nextInt(12); i > 0; i--) if (!sameMove()) return false;
            for (int seal = 0; seal < 10; seal++) {
                int many = m.reach(seal, -1);
                for (int i = -1; i <= many; i++) if (!same("reach", seal, i)) return false;
            }
        }
        return true;
    }

    private boolean sameMove() throws ReflectiveOperationException {
        switch (random.nextInt(6)) {
            case 0: return same("flush", random.nextInt(3));
            case 1: return same("swapOut", random.nextInt(3));
            case 2: return same("swapIn", m.counts(7) - 1);
            case 3: return same("drop", random.nextInt(20));
            case 4: return bring(random.nextInt(10));
            default: return same("load", 0, random.nextInt(10));
        }
    }

    /** Logs told with one or two faults, and how they are mended. */
    private boolean runOfClaims() throws ReflectiveOperationException {
        x = new StartLedger();
        m = new Model();
        int[] registers = {0, 1, 5, 6};
        int few = upTo(1, 4);
        if (!same("locality", 2)) return false;
        for (int round = 0; round < 30; round++) {
            if (round % 10 == 9 && !same("start")) return false;
            int[] measured = {registers[random.nextInt(few)], random.nextInt(3)};
            if (!same("measure", measured)) return false;
            List<int[]> told = new ArrayList<>();
            for (int i = 0; i < m.counts(3); i++) told.add(new int[] {m.entry(0, i, 0), m.entry(0, i, 1)});
            for (int faults = random.nextInt(3); faults > 0; faults--) spoil(told);
            if (!same("claimAs", 1)) return false;
            for (int[] entry : told) if (!same("claim", entry)) return false;
            if (!same("wrong", 1)) return false;
            if (!same("mended")) return false;
        }
        return true;
    }

    private void spoil(List<int[]> told) {
        if (told.isEmpty()) return;
        int i = random.nextInt(told.size());
        switch (random.nextInt(5)) {
            case 0: told.add(i, new int[] {random.nextInt(8), random.nextInt(3)}); break;
            case 1: told.add(i, told.remove(random.nextInt(told.size()))); break;
            case 2: told.get(i)[0] = random.nextInt(8); break;
            case 3: told.remove(i); break;
            default: told.add(Math.max(0, i - 1), told.remove(i)); break;
        }
    }

    /** Numbers that take registers round among a few values, so that more than one mending is right at once. */
    private boolean runOfFewValues() throws ReflectiveOperationException {
        x = new StartLedger();
        m = new Model();
        int[] registers = {0, 3, 6};
        int[] values = {0, -1, random.nextInt()};
        if (!same("locality", 1)) return false;
        for (int round = 0; round < 40; round++) {
            if (round % 6 == 5 && !same("start")) return false;
            if (round % 6 == 5 && !same("locality", 1)) return false;
            int r = registers[random.nextInt(3)];
            if (!same("measure", r, Edge.numberFor(m.register(r), values[random.nextInt(3)]))) return false;
            if (!same("claimAs", random.nextInt(2))) return false;
            for (int i = random.nextInt(5); i > 0; i--) {
                int number = Edge.numberFor(values[random.nextInt(3)], values[random.nextInt(3)]);
                if (!same("claim", registers[random.nextInt(3)], number)) return false;
            }
            if (!same("wrong", 1) || !same("mended")) return false;
        }
        return true;
    }

    private boolean runOf(int sort) throws ReflectiveOperationException {
        if (sort == 3) return runOfClaims();
        if (sort == 6) return runOfFewValues();
        if (sort == 5) return runOfWays();
        return run(sort == 4);
    }

    public static void main(String[] args) throws ReflectiveOperationException {
        int runs = args.length == 0 ? 700 : Integer.parseInt(args[0]);
        for (int run = 0; run < runs; run++) {
            ModelTest test = new ModelTest(20_261_118L + run);
            if (!test.runOf(run % 7)) {
                System.out.println("ModelTest: run " + run + " is not as the model's");
                System.exit(1);
            }
        }
        System.out.println("ModelTest: " + runs + " runs as the model's");
    }
}
