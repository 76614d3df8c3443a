import java.io.IOException;
import java.lang.reflect.Array;
import java.lang.reflect.Constructor;
import java.lang.reflect.Field;
import java.lang.reflect.Method;
import java.lang.reflect.Modifier;
import java.nio.file.Files;
import java.nio.file.Path;
import java.util.Arrays;
import java.util.IdentityHashMap;
import java.util.Map;
import java.util.Set;
import java.util.TreeSet;

/** The public face, the rules of LANGUAGE.md that can be seen from outside, and the room of a new object. */
public final class FaceTest {
    private static final Check check = new Check();

    private static final String[] INT_CALLS = {
        "start 0", "locality 1", "tick 1", "measure 2", "extend 2", "reset 1", "claim 2", "claimAs 1", "forge 2",
        "key 2", "load 2", "flush 1", "swapOut 1", "swapIn 1", "drop 1", "policy 3", "policyNow 1", "seal 3", "open 2",
        "close 1", "unseal 3", "approve 3", "count 3", "renew 3", "undo 0", "image 1", "back 1", "register 1",
        "digest 1", "replay 3", "entry 3", "wrong 1", "mended 0", "word 3", "quote 3", "asks 2", "why 1", "seals 1",
        "reach 2", "foreseen 1", "audit 1", "guess 3", "orphans 0", "ofKey 2", "of 2", "age 1", "fresh 2", "locked 0",
        "counts 1", "status 0"};

    private static void truth(String what, boolean is) {
        check.due(what, is ? 1 : 0, 1);
    }

    private static String signature(Method m) {
        for (Class<?> type : m.getParameterTypes()) {
            if (type != int.class) return m.toString();
        }
        return m.getReturnType() + " " + m.getName() + " " + m.getParameterCount();
    }

    private static void face() {
        Set<String> due = new TreeSet<>();
        for (String call : INT_CALLS) due.add("int " + call);
        due.add("boolean checks 6");
        due.add("long mean 0");
        Set<String> got = new TreeSet<>();
        Set<String> names = new TreeSet<>();
        for (Method m : StartLedger.class.getDeclaredMethods()) {
            if (!Modifier.isPublic(m.getModifiers())) continue;
            got.add(signature(m));
            names.add(m.getName());
            truth(m + " is no static one", !Modifier.isStatic(m.getModifiers()));
        }
        truth("the methods are the document's: " + got, got.equals(due));
        int type = StartLedger.class.getModifiers();
        truth("the class is public and final", Modifier.isPublic(type) && Modifier.isFinal(type));
        Constructor<?>[] made = StartLedger.class.getDeclaredConstructors();
        truth("one public constructor", made.length == 1 && Modifier.isPublic(made[0].getModifiers())
            && made[0].getParameterCount() == 0);
        check.due("NONE", StartLedger.NONE, -1);
        for (Field f : StartLedger.class.getDeclaredFields()) {
            truth(f + " is private", Modifier.isPrivate(f.getModifiers()) || f.getName().equals("NONE"));
        }
        for (Class<?> c : StartLedger.class.getDeclaredClasses()) inside(c, names);
        for (Method m : StartLedger.class.getDeclaredMethods()) {
            boolean isPublic = Modifier.isPublic(m.getModifiers());
            boolean isPrivate = m.isSynthetic() || Modifier.isPrivate(m.getModifiers());
            truth(m + " is private or of the face", isPublic || isPrivate);
            truth(m + " has a name of its own", isPublic || !names.contains(m.getName()));
        }
        truth("twelve classes at most", StartLedger.class.getDeclaredClasses().length < 12);
    }

    private static void inside(Class<?> c, Set<String> names) {
        int type = c.getModifiers();
        truth(c + " is static and not public", Modifier.isStatic(type) && !Modifier.isPublic(type)
            && !Modifier.isProtected(type));
        int fields = 0;
        for (Field f : c.getDeclaredFields()) {
            if (!Modifier.isStatic(f.getModifiers())) fields++;
            else truth(f + " is a constant", Modifier.isFinal(f.getModifiers()) && f.getType() == int.class);
        }
        truth(c + " has twenty fields at most", fields <= 20);
        for (Method m : c.getDeclaredMethods()) {
            truth(m + " has a name of its own", !names.contains(m.getName()));
            truth(m + " takes seven numbers at most", m.getParameterCount() <= 7);
        }
    }

    private static void source() throws IOException {
        String text = Files.readString(Path.of("src/main/java/StartLedger.java"));
        String[] ruledOut = {"import ", "package ", "throw", "catch", "try {", "->", "::", "synchronized", "assert",
            "finally", "Float.float", "Double.double", "System.out", "Exact(", "hashCode", "equals(", "toString("};
        String code = text.replaceAll("(?s)/\\*.*?\\*/", "").replaceAll("//[^\n]*", "");
        for (String word : ruledOut) truth("no '" + word + "' in the class", !code.contains(word));
        truth("signs 1 to 127 alone", text.chars().allMatch(c -> c > 0 && c < 128));
    }

    private static void room(Object o, Map<Object, Boolean> seen, long[] room) throws IllegalAccessException {
        if (o == null || seen.put(o, true) != null) return;
        room[0]++;
        Class<?> c = o.getClass();
        if (c.isArray()) {
            room[1] += Array.getLength(o);
            if (c.getComponentType().isPrimitive()) return;
            for (Object part : (Object[]) o) room(part, seen, room);
            return;
        }
        for (Field f : c.getDeclaredFields()) {
            if (Modifier.isStatic(f.getModifiers())) continue;
            room[1]++;
            if (f.getType().isPrimitive()) continue;
            f.setAccessible(true);
            room(f.get(o), seen, room);
        }
    }

    /** Were each of a run's 512 calls to make an object anew, they would still have room together. */
    private static void room() throws IllegalAccessException {
        long[] room = new long[2];
        room(new StartLedger(), new IdentityHashMap<>(), room);
        truth("objects and arrays: " + Arrays.toString(room), room[0] * 513 < 600_000);
        truth("fields and elements: " + Arrays.toString(room), room[1] * 513 < 7_300_000);
    }

    public static void main(String[] args) throws IOException, IllegalAccessException {
        face();
        source();
        room();
        check.end("FaceTest");
    }
}
