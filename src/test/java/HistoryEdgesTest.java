import java.util.ArrayList;
import java.util.Arrays;
import java.util.List;
import java.util.function.ToIntFunction;

/**
 * Each sentence of promises 1, 26 to 28, 52, 53 that names an edge, by a test of its own: the sentence stands above it.
 */
public final class HistoryEdgesTest {
    private static final Edge edge = new Edge();
    private static final int NONE = StartLedger.NONE;

    /** A call by its name, so that one can be made on many objects. */
    private record Act(String name, int by, ToIntFunction<StartLedger> call) { }

    private static final List<Act> plain = new ArrayList<>();
    private static final List<Act> bySession = new ArrayList<>();
    private static final List<Act> taken = new ArrayList<>();
    private static final List<Act> questions = new ArrayList<>();

    /**
     * Rows that are full but for one context, policy, seal and approval; key 0 in slot 0 with sessions 0 .. 3, key 1 in
     * slot 1, key 2 swapped, key 9 below it; at locality 0, nothing can be undone, image 0 is kept.
     */
    private static StartLedger ready() {
        StartLedger x = new StartLedger();
        for (int i = 0; i < 40; i++) x.measure(0, i);
        x.claimAs(0);
        for (int k = 0; k < 9; k++) x.key(NONE, 100 + k);
        for (int k = 0; k < 3; k++) x.load(0, k);
        x.key(2, 109);
        for (int c = 0; c < 10; c++) x.swapIn(x.swapOut(2));
        x.swapOut(2);
        for (int p = 0; p < 23; p++) x.policy(2, p % 4, 0);
        for (int i = 0; i < 9; i++) x.seal(i % 2, 70 + i, i % 5 == 4 ? 3 : NONE);
        for (int s = 0; s < 4; s++) x.open(0, s);
        for (int p = 0; p < 7; p++) x.approve(0, p, x.word(0, 2, p));
        x.image(0);
        x.back(0);
        return x;
    }

    /** Rows quite full: what one call more is refused by -5. */
    private static StartLedger readyAndFull() {
        StartLedger x = ready();
        x.swapOut(1);
        x.drop(1);
        x.load(0, 1);
        x.policyNow(0);
        x.seal(0, 1, NONE);
        x.approve(0, 7, x.word(0, 2, 7));
        x.image(0);
        x.back(0);
        return x;
    }

    private static void plain(String name, int by, ToIntFunction<StartLedger> call) {
        plain.add(new Act(name, by, call));
    }

    private static void refusedCalls() {
        plain("locality(4)", -1, x -> x.locality(4));
        plain("tick(0)", -1, x -> x.tick(0));
        plain("measure(8, 0)", -1, x -> x.measure(8, 0));
        plain("measure(6, 0)", -4, x -> x.measure(6, 0));
        plain("measure(0, 0)", -5, x -> x.measure(0, 0));
        plain("extend(8, 0)", -1, x -> x.extend(8, 0));
        plain("extend(7, 0)", -4, x -> x.extend(7, 0));
        plain("reset(5)", -1, x -> x.reset(5));
        plain("reset(6)", -4, x -> x.reset(6));
        plain("claim(8, 0)", -1, x -> x.claim(8, 0));
        plain("claim(0, 0)", -5, x -> x.claim(0, 0));
        plain("claimAs(2)", -1, x -> x.claimAs(2));
        plain("forge(40, 0)", -2, x -> x.forge(40, 0));
        plain("key(2, 0)", -2, x -> x.key(2, 0));
        plain("key(0, 0)", -5, x -> x.key(0, 0));
        plain("load(2, 0)", -1, x -> x.load(2, 0));
        plain("load(0, 10)", -2, x -> x.load(0, 10));
        plain("load(1, 0)", -4, x -> x.load(1, 0));
        plain("load(0, 9)", -4, x -> x.load(0, 9));
        plain("flush(2)", -2, x -> x.flush(2));
        plain("swapOut(2)", -2, x -> x.swapOut(2));
        plain("swapOut(0)", -5, x -> x.swapOut(0));
        plain("swapIn(12)", -2, x -> x.swapIn(12));
        plain("swapIn(0)", -4, x -> x.swapIn(0));
        plain("drop(10)", -2, x -> x.drop(10));
        plain("drop(0)", -4, x -> x.drop(0));
        plain("policy(8, 0, 0)", -1, x -> x.policy(8, 0, 0));
        plain("policy(3, 24, 0)", -2, x -> x.policy(3, 24, 0));
        plain("policy(2, 0, 0)", -5, x -> x.policy(2, 0, 0));
        plain("policyNow(256)", -1, x -> x.policyNow(256));
        plain("policyNow(1)", -5, x -> x.policyNow(1));
        plain("seal(2, 0, NONE)", -2, x -> x.seal(2, 0, NONE));
        plain("seal(0, 0, NONE)", -5, x -> x.seal(0, 0, NONE));
        plain("open(2, 0)", -2, x -> x.open(2, 0));
        plain("open(0, 0)", -5, x -> x.open(0, 0));
        plain("close(4)", -2, x -> x.close(4));
        plain("unseal(0, 10, 0)", -2, x -> x.unseal(0, 10, 0));
        plain("unseal(4, 0, 0)", -2, x -> x.unseal(4, 0, 0));
        plain("approve(0, 24, 0)", -2, x -> x.approve(0, 24, 0));
        plain("count(0, 4, 0)", -1, x -> x.count(0, 4, 0));
        plain("count(4, 0, 0)", -2, x -> x.count(4, 0, 0));
        plain("renew(4, 0, 0)", -2, x -> x.renew(4, 0, 0));
        plain("image(2)", -1, x -> x.image(2));
        plain("back(2)", -1, x -> x.back(2));
        plain("back(1)", -4, x -> x.back(1));
    }

    private static void bySession(int told, int by, ToIntFunction<StartLedger> call) {
        bySession.add(new Act("act " + told, by, call));
    }

    private static void refusedBySession() {
        bySession(19, -4, x -> x.unseal(0, 1, x.word(0, 1, 1)));
        bySession(19, -4, x -> x.unseal(0, 1, 0));
        bySession(19, -6, x -> x.unseal(0, 0, 0));
        bySession(19, -7, x -> x.unseal(0, 4, x.word(0, 1, 4)));
        bySession(20, -4, x -> x.approve(0, 0, 0));
        bySession(20, -5, x -> x.approve(0, 8, x.word(0, 2, 8)));
        bySession(21, -6, x -> x.count(0, 0, 0));
        bySession(22, -6, x -> x.renew(0, 0, 0));
    }

    private static void taken(int told, ToIntFunction<StartLedger> call) {
        taken.add(new Act("" + told, 0, call));
    }

    private static void takenCalls() {
        taken(0, x -> x.start());
        taken(1, x -> x.locality(2));
        taken(2, x -> x.tick(3));
        taken(4, x -> x.extend(3, 4));
        taken(7, x -> x.claimAs(1));
        taken(8, x -> x.forge(39, 4));
        taken(11, x -> x.flush(1));
        taken(12, x -> x.swapOut(0));
        taken(13, x -> x.swapIn(10));
        taken(14, x -> x.drop(2));
        taken(15, x -> x.policy(1, 0, 0));
        taken(15, x -> x.policyNow(3));
        taken(16, x -> x.seal(0, 5, 3));
        taken(18, x -> x.close(3));
        taken(19, x -> x.unseal(0, 0, x.word(0, 1, 0)));
        taken(20, x -> x.approve(0, 9, x.word(0, 2, 9)));
        taken(21, x -> x.count(0, 1, x.word(0, 3, 1)));
        taken(22, x -> x.renew(0, 1, x.word(0, 4, 1)));
    }

    private static void question(String name, ToIntFunction<StartLedger> call) {
        questions.add(new Act(name, 0, call));
    }

    private static void askedCalls() {
        question("register", x -> x.register(8));
        question("digest", x -> x.digest(-1));
        question("replay", x -> x.replay(2, 0, 0));
        question("entry", x -> x.entry(2, 0, 0));
        question("wrong", x -> x.wrong(2));
        question("mended", x -> x.mended());
        question("word", x -> x.word(4, 0, 0));
        question("quote", x -> x.quote(3, 0, 0));
        question("checks", x -> x.checks(3, 0, 0, 0, 0, 0) ? 1 : 0);
        question("asks", x -> x.asks(24, 7));
        question("why", x -> x.why(24));
        question("seals", x -> x.seals(2));
        question("reach", x -> x.reach(10, NONE));
        question("reach", x -> x.reach(0, NONE));
        question("foreseen", x -> x.foreseen(4));
        question("foreseen", x -> x.foreseen(3));
        question("audit", x -> x.audit(4));
        question("guess", x -> x.guess(3, 0, 0));
        question("orphans", x -> x.orphans());
        question("ofKey", x -> x.ofKey(10, 0));
        question("of", x -> x.of(0, 8));
        question("age", x -> x.age(8));
        question("fresh", x -> x.fresh(256, 0));
        question("mean", x -> (int) x.mean());
        question("locked", x -> x.locked());
        question("counts", x -> x.counts(25));
        question("status", x -> x.status());
    }

    // ---- promise 26

    /** "that was not REFUSED by -1, -2, nor by -4, -5 without a SESSION": such calls are not kept, and change nothing. */
    private static void refusedWithoutASession() {
        for (Act act : plain) {
            StartLedger x = readyAndFull();
            edge.due(act.name + ": nothing can be undone", x.counts(17), 0);
            String before = Seen.of(x);
            int[] told = Edge.told(x);
            told[-1 - act.by]++;
            act.call.applyAsInt(x);
            edge.due(act.name + ": status()", x.status(), act.by);
            edge.truth(act.name + ": one refusal more", Arrays.equals(told, Edge.told(x)));
            edge.truth(act.name + ": nothing is changed", Seen.of(x).equals(before));
            edge.due(act.name + ": it can't be undone", x.undo(), -4);
        }
    }

    /** The same behind an act: that is the latest then. */
    private static void refusedBehindAnAct() {
        for (Act act : plain) {
            StartLedger x = readyAndFull();
            x.tick(1);
            act.call.applyAsInt(x);
            edge.due(act.name + ": status()", x.status(), act.by);
            edge.due(act.name + ": counts(17)", x.counts(17), 1);
            edge.due(act.name + ": what is undone is the act ahead", x.undo(), 2);
            edge.due(act.name + ": TIME", x.counts(1), 0);
        }
    }

    /** By a SESSION a call REFUSED by -3 to -7 is kept, and undone. */
    private static void refusedByASession() {
        for (Act act : bySession) {
            StartLedger x = readyAndFull();
            undone(x, act, act.by);
            Edge.strain(x, 1, 3);
            undone(x, act, -3);
        }
    }

    private static void undone(StartLedger x, Act act, int by) {
        String before = Seen.of(x);
        int undos = x.counts(17);
        act.call.applyAsInt(x);
        edge.due(act.name + ": status()", x.status(), by);
        edge.truth(act.name + ": it is to be seen", !Seen.of(x).equals(before));
        edge.due(act.name + ": it can be undone", x.counts(17), undos + 1);
        int[] told = Edge.told(x);
        edge.due(act.name + ": undo()", x.undo(), Integer.parseInt(act.name.substring(4)));
        edge.due(act.name + ": undo(): status()", x.status(), 0);
        edge.truth(act.name + ": all is as it was", Seen.of(x).equals(before));
        edge.truth(act.name + ": but what is told of REFUSED calls", Arrays.equals(told, Edge.told(x)));
        edge.due(act.name + ": counts(17)", x.counts(17), undos);
    }

    /** "start() (told as 0), locality() (1), .. renew() (22)": each is undone, whatever stands. */
    private static void undoOfEach() {
        for (Act act : taken) {
            StartLedger x = ready();
            String before = Seen.of(x);
            act.call.applyAsInt(x);
            edge.due("act " + act.name + ": status()", x.status(), 0);
            edge.truth("act " + act.name + ": it is to be seen", !Seen.of(x).equals(before));
            edge.due("act " + act.name + ": counts(17)", x.counts(17), 1);
            edge.due("act " + act.name + ": undo()", x.undo(), Integer.parseInt(act.name));
            edge.truth("act " + act.name + ": all is as it was", Seen.of(x).equals(before));
            edge.due("act " + act.name + ": no more", x.undo(), -4);
        }
    }

    /** The acts for which there must be room: measure() (3), reset() (5), claim() (6), key() (9), load() (10), open() (17). */
    private static void undoOfTheOthers() {
        StartLedger x = ready();
        x.start();
        x.locality(2);
        x.claimAs(1);
        List<Act> acts = new ArrayList<>();
        acts.add(new Act("3", 0, y -> y.measure(6, 1)));
        acts.add(new Act("5", 0, y -> y.reset(6)));
        acts.add(new Act("6", 0, y -> y.claim(6, 1)));
        acts.add(new Act("10", 0, y -> y.load(0, 2)));
        acts.add(new Act("17", 0, y -> y.open(0, 1)));
        for (Act act : acts) {
            String before = Seen.of(x);
            act.call.applyAsInt(x);
            edge.due("act " + act.name + ": status()", x.status(), 0);
            edge.due("act " + act.name + ": undo()", x.undo(), Integer.parseInt(act.name));
            edge.truth("act " + act.name + ": all is as it was", Seen.of(x).equals(before));
            act.call.applyAsInt(x);
        }
        StartLedger y = new StartLedger();
        String before = Seen.of(y);
        y.key(NONE, 5);
        edge.due("act 9: undo()", y.undo(), 9);
        edge.truth("act 9: all is as it was", Seen.of(y).equals(before));
    }

    /** "(8 are kept)": of n acts the latest 8 are undone, one by one, and no more. */
    private static void eightAreKept() {
        for (int n = 0; n <= 20; n++) {
            StartLedger x = new StartLedger();
            List<String> seen = new ArrayList<>();
            for (int i = 0; i < n; i++) {
                seen.add(Seen.of(x));
                if (i % 3 == 0) x.claim(1, i);
                else if (i % 3 == 1) x.tick(i);
                else x.start();
            }
            int[] told = {6, 2, 0};
            edge.due("counts(17) of " + n, x.counts(17), Math.min(n, 8));
            for (int i = n - 1; i >= 0 && i >= n - 8; i--) {
                edge.due("undo() of act " + i + " of " + n, x.undo(), told[i % 3]);
                edge.truth("all is as it was", Seen.of(x).equals(seen.get(i)));
                edge.due("counts(17)", x.counts(17), Math.min(n, 8) - (n - i));
            }
            edge.refused(x, "undo(): there is none", -4, x::undo);
            edge.refused(x, "nor is there one the next time", -4, x::undo);
        }
    }

    /** undo() itself can't be undone; acts behind it can, each at its own place. */
    private static void undoAndOn() {
        StartLedger x = new StartLedger();
        for (int i = 0; i < 12; i++) x.claim(0, i);
        for (int i = 0; i < 5; i++) x.undo();
        edge.due("counts(17)", x.counts(17), 3);
        for (int i = 0; i < 6; i++) x.tick(1);
        edge.due("counts(17)", x.counts(17), 8);
        for (int i = 0; i < 6; i++) edge.due("undo()", x.undo(), 2);
        for (int i = 0; i < 2; i++) edge.due("undo()", x.undo(), 6);
        edge.refused(x, "undo()", -4, x::undo);
        edge.due("entries of the CLAIM", x.counts(4), 5);
        edge.due("its last", x.entry(1, 4, 1), 4);
    }

    /** An act that changed nothing to be seen is the latest all the same. */
    private static void undoOfWhatIsNotSeen() {
        StartLedger x = new StartLedger();
        x.locality(0);
        x.claimAs(1);
        x.claimAs(0);
        int[] due = {7, 7, 1, -4};
        for (int d : due) edge.due("undo()", x.undo(), d);
    }

    // ---- promises 27, 28

    /** "IMAGE k (0, 1) is kept ..: TIME. -1"; "Back to IMAGE k: TIME then .. -1; -4 (it was not kept)". */
    private static void imagesThatCannotBe() {
        StartLedger x = new StartLedger();
        x.tick(4);
        for (int k : Edge.outside(0, 1)) {
            edge.refused(x, "image(" + k + ")", -1, () -> x.image(k));
            edge.refused(x, "back(" + k + ")", -1, () -> x.back(k));
        }
        for (int k = 0; k < 2; k++) {
            int n = k;
            edge.refused(x, "back(" + k + "), not kept", -4, () -> x.back(n));
        }
        edge.taken(x, "image(1)", 4, () -> x.image(1));
        edge.refused(x, "back(0), not kept", -4, () -> x.back(0));
        edge.due("what can be undone is left", x.counts(17), 1);
        edge.taken(x, "back(1)", 4, () -> x.back(1));
        for (int k : Edge.outside(0, 1)) edge.refused(x, "back(" + k + ")", -1, () -> x.back(k));
    }

    /** "of all but what can be undone, what is told of REFUSED calls": each act behind it is gone by back(). */
    private static void backBehindEach() {
        for (Act act : taken) {
            StartLedger x = ready();
            x.tick(9);
            String kept = Seen.of(x);
            edge.taken(x, "image(1)", 9, () -> x.image(1));
            edge.due("image() is no act", x.counts(17), 1);
            edge.truth("image() changes nothing", Seen.of(x).equals(kept));
            act.call.applyAsInt(x);
            x.locality(4);
            int[] told = Edge.told(x);
            edge.taken(x, "back(1)", 9, () -> x.back(1));
            edge.truth("back(1) behind act " + act.name, Seen.of(x).equals(kept));
            edge.truth("but what is told of REFUSED calls", Arrays.equals(told, Edge.told(x)));
            edge.due("nothing can be undone then", x.counts(17), 0);
            edge.refused(x, "nothing can be undone then", -4, x::undo);
        }
    }

    /** An IMAGE is kept till it is kept anew: by the other one, a START, undo() and back() it is left alone. */
    private static void imagesStay() {
        StartLedger x = new StartLedger();
        x.tick(1);
        x.image(0);
        x.tick(1);
        x.image(1);
        x.undo();
        x.undo();
        x.start();
        edge.due("back(1)", x.back(1), 2);
        edge.due("STARTS", x.counts(2), 1);
        edge.due("back(0)", x.back(0), 1);
        edge.due("back(0) once more", x.back(0), 1);
        x.tick(50);
        edge.due("image(0) anew", x.image(0), 51);
        x.tick(1);
        edge.due("back(1)", x.back(1), 2);
        edge.due("back(0)", x.back(0), 51);
        edge.due("an IMAGE of an IMAGE", x.image(1), 51);
        x.tick(1);
        edge.due("back(1)", x.back(1), 51);
    }

    /** "nothing can be undone then"; acts behind back() can, 8 of them. */
    private static void undoBehindBack() {
        StartLedger x = new StartLedger();
        x.image(0);
        for (int n = 0; n < 11; n++) {
            for (int i = 0; i < n; i++) x.claim(0, i);
            x.back(0);
            edge.due("entries of the CLAIM", x.counts(4), 0);
            edge.due("counts(17)", x.counts(17), 0);
            for (int i = 0; i < n; i++) x.tick(1);
            for (int i = 0; i < Math.min(n, 8); i++) edge.due("undo()", x.undo(), 2);
            edge.due("undo()", x.undo(), -4);
            edge.due("TIME", x.counts(1), Math.max(0, n - 8));
            x.back(0);
        }
    }

    // ---- promises 52, 53

    /** Promise 52: "NONE for others." */
    private static void othersOfCounts() {
        StartLedger x = ready();
        for (int what : Edge.outside(0, 24)) edge.due("counts(" + what + ")", x.counts(what), NONE);
        for (int what = 0; what < 25; what++) edge.truth("counts(" + what + ")", x.counts(what) >= 0);
    }

    /** Promise 52: each count by what it is of, all unlike one another as far as may be. */
    private static void countsOfEach() {
        StartLedger x = readyAndFull();
        x.locality(3);
        x.tick(77);
        x.flush(1);
        x.close(1);
        x.close(2);
        for (int c = 0; c < 4; c++) {
            for (int i = 0; i <= 3 - c; i++) x.count(0, c, x.word(0, 3, c));
        }
        x.claimAs(1);
        x.claim(0, 0);
        int[] due = {3, 77, 1, 40, 1, 10, 1, 12, 24, 10, 9, 4, 4, 3, 2, 1, 8, 8};
        for (int what = 0; what < due.length; what++) edge.due("counts(" + what + ")", x.counts(what), due[what]);
    }

    /** Promise 52: "18 .. 24 how many calls were REFUSED by -1 .. -7", and none by a question. */
    private static void countsOfRefused() {
        StartLedger x = readyAndFull();
        int[] due = Edge.told(x);
        for (Act act : plain) {
            act.call.applyAsInt(x);
            due[-1 - act.by]++;
        }
        for (int i = 0; i < 7; i++) edge.due("counts(" + (18 + i) + ")", x.counts(18 + i), due[i]);
        for (Act act : questions) act.call.applyAsInt(x);
        for (int i = 0; i < 7; i++) edge.due("counts(" + (18 + i) + ")", x.counts(18 + i), due[i]);
        x.undo();
        x.undo();
        x.back(0);
        x.start();
        due[3] += 2;
        for (int i = 0; i < 7; i++) edge.due("counts(" + (18 + i) + ")", x.counts(18 + i), due[i]);
    }

    /** Promise 53: "What the latest call that can be undone, or undo(), image(), back(), was REFUSED by": no question. */
    private static void statusAndQuestions() {
        for (Act act : plain) {
            StartLedger x = readyAndFull();
            act.call.applyAsInt(x);
            for (Act question : questions) {
                question.call.applyAsInt(x);
                edge.due(act.name + ", " + question.name + "(): status()", x.status(), act.by);
            }
        }
        StartLedger x = readyAndFull();
        String before = Seen.of(x);
        for (Act question : questions) {
            question.call.applyAsInt(x);
            edge.truth(question.name + "() changes nothing", Seen.of(x).equals(before));
            edge.due(question.name + "() can't be undone", x.counts(17), 0);
        }
    }

    /** Promise 1: "As at the first START", whatever another object has gone through. */
    private static void objectsShareNothing() {
        String first = Seen.of(new StartLedger());
        StartLedger x = readyAndFull();
        StartLedger y = new StartLedger();
        edge.truth("a new object is as at the first START", Seen.of(y).equals(first));
        edge.due("nothing can be undone", y.counts(17), 0);
        for (int i = 0; i < 7; i++) edge.due("counts(" + (18 + i) + ")", y.counts(18 + i), 0);
        edge.due("no IMAGE is kept", y.back(0), -4);
        String other = Seen.of(x);
        for (Act act : taken) act.call.applyAsInt(y);
        edge.truth("the other is left alone", Seen.of(x).equals(other));
    }

    /** Promise 53: "0 if it was not, or ahead of any": each call that is not REFUSED takes it back to 0. */
    private static void statusOfTaken() {
        edge.due("ahead of any", new StartLedger().status(), 0);
        for (Act act : taken) {
            StartLedger x = ready();
            x.locality(4);
            edge.due("status()", x.status(), -1);
            act.call.applyAsInt(x);
            edge.due("act " + act.name + ": status()", x.status(), 0);
            x.locality(4);
            x.undo();
            edge.due("undo(): status()", x.status(), 0);
            x.locality(4);
            x.image(1);
            edge.due("image(): status()", x.status(), 0);
            x.locality(4);
            x.back(1);
            edge.due("back(): status()", x.status(), 0);
        }
    }

    public static void main(String[] args) {
        refusedCalls();
        refusedBySession();
        takenCalls();
        askedCalls();
        refusedWithoutASession();
        refusedBehindAnAct();
        refusedByASession();
        undoOfEach();
        undoOfTheOthers();
        eightAreKept();
        undoAndOn();
        undoOfWhatIsNotSeen();
        imagesThatCannotBe();
        backBehindEach();
        imagesStay();
        undoBehindBack();
        objectsShareNothing();
        othersOfCounts();
        countsOfEach();
        countsOfRefused();
        statusAndQuestions();
        statusOfTaken();
        edge.end("HistoryEdgesTest");
    }
}
