import java.lang.reflect.Method;
import java.util.ArrayList;
import java.util.Arrays;
import java.util.List;
import java.util.Random;

/** Long random runs of all calls, the class held against the naive model, answer by answer. */
public final class ModelTest {
    private static final int CALLS = 512;

    /** How each call's numbers are drawn; a letter a number. */
    private static final String[] FACE = {
        "start", "locality l", "tick t", "measure rn", "extend rn", "reset r", "claim rn", "claimAs w", "forge en",
        "key sn", "load wk", "flush s", "swapOut s", "swapIn c", "drop k", "policy oab", "policyNow z", "seal snp",
        "open sn", "close x", "unseal x1W", "approve xpW", "count xuW", "renew xnW", "undo", "image i", "back i",
        "register r", "digest z", "replay wer", "entry wew", "wrong w", "mended", "word xvn", "quote szn",
        "checks sDGSTQ", "asks py", "why p", "seals w", "reach 1m", "foreseen l", "audit x", "guess szQ", "orphans",
        "ofKey ky", "of gy", "age r", "fresh zw", "mean", "locked", "counts C", "status"};
    private static final int ACTS = 27;

    private final Random random;
    private final List<String> names = new ArrayList<>();
    private final List<String> kinds = new ArrayList<>();
    private final List<Method> ours = new ArrayList<>();
    private final List<Method> models = new ArrayList<>();
    private StartLedger x;
    private Model m;
    private int[] weights;

    private ModelTest(long seed) throws ReflectiveOperationException {
        random = new Random(seed);
        for (String line : FACE) {
            String[] parts = line.split(" ");
            names.add(parts[0]);
            kinds.add(parts.length == 1 ? "" : parts[1]);
            Class<?>[] types = new Class<?>[kinds.get(kinds.size() - 1).length()];
            Arrays.fill(types, int.class);
            ours.add(StartLedger.class.getMethod(parts[0], types));
            models.add(Model.class.getDeclaredMethod(parts[0], types));
        }
    }

    private int upTo(int least, int most) {
        return least + random.nextInt(most - least + 1);
    }

    /** Mostly one that there is, at times one beyond either end. */
    private int oneOf(int size) {
        return random.nextInt(12) == 0 ? upTo(-2, size + 1) : random.nextInt(Math.max(1, size));
    }

    private int anyInt() {
        int[] odd = {0, 1, -1, Integer.MIN_VALUE, Integer.MAX_VALUE};
        int way = random.nextInt(8);
        return way == 0 ? random.nextInt() : way == 1 ? odd[random.nextInt(odd.length)] : random.nextInt(4);
    }

    private int set() {
        int[] odd = {-1, 256, 0, 255, 64, 128, 192, 1, 65};
        return random.nextBoolean() ? odd[random.nextInt(odd.length)] : random.nextInt(256);
    }

    private int register() {
        return random.nextInt(3) == 0 ? oneOf(8) : new int[] {0, 1, 6, 7}[random.nextInt(4)];
    }

    private int draw(char kind, int[] before, String name) {
        switch (kind) {
            case 'l': return oneOf(4);
            case 't': return random.nextInt(4) == 0 ? upTo(-1, 101) : upTo(1, 3);
            case 'r': return register();
            case 'n': return anyInt();
            case 'w': return random.nextInt(10) == 0 ? upTo(-1, 3) : random.nextInt(8) == 0 ? 1 : 0;
            case 'e': return oneOf(Math.max(m.counts(3), m.counts(4)));
            case 's': return oneOf(3);
            case 'k': return oneOf(m.counts(5));
            case 'c': return random.nextBoolean() ? m.counts(7) - 1 : oneOf(m.counts(7));
            case 'o': return oneOf(8);
            case 'a': return policyNumber(before[0], true);
            case 'b': return policyNumber(before[0], false);
            case 'z': return set();
            case 'p': return random.nextInt(6) == 0 ? -1 : oneOf(m.counts(8));
            case 'x': return oneOf(random.nextInt(4) == 0 ? 4 : 2);
            case '1': return oneOf(m.counts(9));
            case 'u': return oneOf(4);
            case 'i': return oneOf(2);
            case 'v': return upTo(0, 5);
            case 'y': return upTo(-1, 8);
            case 'm': return upTo(-2, 6);
            case 'g': return upTo(-1, 13);
            case 'C': return upTo(-1, 26);
            case 'W': return word(name, before);
            case 'D': return m.digest(set());
            case 'G': return random.nextInt(1000);
            case 'S': return m.counts(2);
            case 'T': return m.counts(1);
            case 'Q': return quote(name, before);
            default: throw new IllegalStateException("kind " + kind);
        }
    }

    private int policyNumber(int sort, boolean first) {
        switch (sort) {
            case 0: return first ? set() : m.digest(set());
            case 1: return first ? oneOf(4) : random.nextInt(9) == 0 ? upTo(9999, 10000) : upTo(-1, 3);
            case 2: return oneOf(4);
            case 3: return oneOf(m.counts(8));
            case 4: return oneOf(m.counts(8));
            case 5: return random.nextInt(9) == 0 ? upTo(99_999, 100_000) : m.counts(1) + upTo(-3, 9);
            case 6: return oneOf(m.counts(5));
            default: return first ? register() : anyInt();
        }
    }

    private int word(String name, int[] before) {
        if (random.nextInt(9) == 0) return anyInt();
        int call = Arrays.asList("unseal", "approve", "count", "renew").indexOf(name) + 1;
        return m.word(before[0], call, before[1]);
    }

    private int quote(String name, int[] before) {
        if (random.nextInt(4) == 0) return anyInt();
        if (name.equals("guess")) return m.quote(before[0], before[1], upTo(-2, 1002));
        int key = 0;
        while (m.ofKey(key, 1) != before[0] && key < 10) key++;
        for (int set = 0; set < 256; set++) {
            if (m.digest(set) == before[1]) return m.quote(before[0], set, before[2]);
        }
        return 0;
    }

    private static long asLong(Object answer) {
        if (answer instanceof Boolean b) return b ? 1 : 0;
        return ((Number) answer).longValue();
    }

    /** One call on both; false if the answers differ. */
    private boolean same(int call, int[] numbers) throws ReflectiveOperationException {
        Object[] args = new Object[numbers.length];
        for (int i = 0; i < args.length; i++) args[i] = numbers[i];
        long got = asLong(ours.get(call).invoke(x, args));
        long want = asLong(models.get(call).invoke(m, args));
        if (got == want && x.status() == m.status()) return true;
        System.out.println(names.get(call) + Arrays.toString(numbers) + " answered " + got + " (status " + x.status()
            + "), the model " + want + " (status " + m.status() + ")");
        return false;
    }

    private boolean sameRandom(int call) throws ReflectiveOperationException {
        String kind = kinds.get(call);
        int[] numbers = new int[kind.length()];
        for (int i = 0; i < numbers.length; i++) numbers[i] = draw(kind.charAt(i), numbers, names.get(call));
        return same(call, numbers);
    }

    private int drawCall() {
        int sum = 0;
        for (int w : weights) sum += w;
        int n = random.nextInt(sum);
        int call = 0;
        while (n >= weights[call]) n -= weights[call++];
        return call;
    }

    /** Runs differ in what they do much of, so that each comes to corners of its own. */
    private void drawWeights(boolean searches) {
        int[] likely = {0, 1, 1, 3, 10};
        weights = new int[FACE.length];
        for (int i = 0; i < weights.length; i++) weights[i] = i < ACTS ? likely[random.nextInt(likely.length)] : 1;
        weights[names.indexOf("start")] = random.nextInt(3) == 0 ? 1 : 0;
        weights[names.indexOf("back")] = random.nextInt(3) == 0 ? 1 : 0;
        weights[names.indexOf("key")] = 5;
        weights[names.indexOf("load")] = 10;
        weights[names.indexOf("open")] = 5;
        weights[names.indexOf("policy")] = Math.max(3, weights[names.indexOf("policy")]);
        weights[names.indexOf("reach")] = searches ? 2 : 0;
    }

    private boolean run(boolean searches) throws ReflectiveOperationException {
        x = new StartLedger();
        m = new Model();
        drawWeights(searches);
        for (int i = 0; i < CALLS; i++) if (!sameRandom(drawCall())) return false;
        return true;
    }

    /** Keys and contexts alone, and the way to each seal, i by i. */
    private boolean runOfWays() throws ReflectiveOperationException {
        x = new StartLedger();
        m = new Model();
        drawWeights(true);
        Arrays.fill(weights, 0);
        String[] used = {"key", "load", "flush", "swapOut", "swapIn", "drop", "seal", "policy", "locality", "start"};
        int[] often = {6, 14, 8, upTo(1, 8), upTo(0, 3), 1, 4, 1, 1, 0};
        for (int i = 0; i < used.length; i++) weights[names.indexOf(used[i])] = often[i];
        int reach = names.indexOf("reach");
        for (int i = 0; i < 120; i++) {
            if (!sameRandom(drawCall())) return false;
            if (i % 10 != 9 || m.counts(9) == 0) continue;
            int seal = random.nextInt(m.counts(9));
            for (int move = -1; move < 7; move++) if (!same(reach, new int[] {seal, move})) return false;
        }
        return true;
    }

    public static void main(String[] args) throws ReflectiveOperationException {
        int runs = args.length == 0 ? 600 : Integer.parseInt(args[0]);
        for (int run = 0; run < runs; run++) {
            ModelTest test = new ModelTest(20_261_118L + run);
            boolean good = run % 6 == 5 ? test.runOfWays() : test.run(run % 6 == 4);
            if (!good) {
                System.out.println("ModelTest: run " + run + " is not as the model's");
                System.exit(1);
            }
        }
        System.out.println("ModelTest: " + runs + " runs as the model's");
    }
}
