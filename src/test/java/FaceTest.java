import java.io.IOException;
import java.lang.management.ManagementFactory;
import java.lang.reflect.Array;
import java.lang.reflect.Field;
import java.lang.reflect.Method;
import java.lang.reflect.Modifier;
import java.nio.file.Files;
import java.nio.file.Path;
import java.util.ArrayList;
import java.util.Collections;
import java.util.IdentityHashMap;
import java.util.List;
import java.util.Set;
import java.util.TreeSet;

/** The face of the class, the words that LANGUAGE.md rules out, and the room that calls take. */
public final class FaceTest {
    private static final String FACE = "feed(long)int end(int)int text()int fault()int part(int,int)int rule(int)int"
        + " told(int,int,int)int draw(int)int seed(int)int wreck(int,boolean)int ground(int,int,int)int known(int)int"
        + " undo()int share(int,int,int)long holes(int,int,int)long fits(int)int laws(int)int span(int,int)int"
        + " say(int,int)int cost()int near(int)int lost(int,int,int)long best(int)int safest()int drawing()int"
        + " wrong(int)int unlike(int)int trial(int,int,int)int sheet(int,int,int)int lay(int,int,int)int"
        + " read(int,int,int,int)int torn()int count(int)int";
    /** What one room holds, and how many calls a run has at most: each of them may make a new object. */
    private static final long ROOM_OBJECTS = 600000, ROOM_ELEMENTS = 7300000, CALLS = 512;
    private static int wrong = 0;

    private static void due(String what, Object got, Object want) {
        if (!got.equals(want)) {
            wrong++;
            System.out.println(what + ": " + got + ", due is " + want);
        }
    }

    public static void main(String[] args) throws IOException, IllegalAccessException {
        face();
        source(Files.readString(Path.of("src/main/java/MissingHoles.java")));
        room();
        roomOfNewObjects();
        System.out.println(wrong == 0 ? "the face is as due" : wrong + " things are not as due");
        if (wrong != 0) {
            System.exit(1);
        }
    }

    private static void face() {
        TreeSet<String> got = new TreeSet<>();
        TreeSet<String> privates = new TreeSet<>();
        TreeSet<String> publics = new TreeSet<>();
        for (Method m : MissingHoles.class.getDeclaredMethods()) {
            if (Modifier.isPrivate(m.getModifiers())) {
                privates.add(m.getName());
                continue;
            }
            List<String> types = new ArrayList<>();
            for (Class<?> t : m.getParameterTypes()) {
                types.add(t.getName());
            }
            publics.add(m.getName());
            got.add(m.getName() + "(" + String.join(",", types) + ")" + m.getReturnType().getName());
        }
        due("methods", got, new TreeSet<>(List.of(FACE.split(" "))));
        for (Class<?> c : MissingHoles.class.getDeclaredClasses()) {
            due(c + " is static", Modifier.isStatic(c.getModifiers()), true);
            for (Method m : c.getDeclaredMethods()) {
                privates.add(m.getName());
            }
        }
        privates.retainAll(publics);
        due("methods inside with a public one's name", privates.toString(), "[]");
        TreeSet<String> constants = new TreeSet<>();
        for (Field f : MissingHoles.class.getDeclaredFields()) {
            if (!Modifier.isPrivate(f.getModifiers())) {
                constants.add(f.getName());
            }
        }
        due("constants", constants.toString(), "[BAD, FULL, NONE, STATE]");
        due("their values", MissingHoles.BAD + " " + MissingHoles.STATE + " " + MissingHoles.FULL + " " + MissingHoles.NONE,
            "-1 -2 -3 -4");
        due("final", Modifier.isFinal(MissingHoles.class.getModifiers()), true);
        due("constructors", MissingHoles.class.getDeclaredConstructors().length, 1);
    }

    private static void source(String text) {
        String code = text.replaceAll("(?s)/\\*.*?\\*/", " ").replaceAll("//[^\n]*", " ").replaceAll("\"[^\"\n]*\"", " ");
        for (String word : new String[] {"throw", "throws", "try", "catch", "synchronized", "assert", "import", "package",
            "Object", "System\\.out", "->", "::", "hashCode", "toString", "Random", "Thread", "Exact"}) {
            boolean found = java.util.regex.Pattern.compile(word.matches("\\w+") ? "\\b\\w*" + word + "\\b" : word).matcher(code).find();
            due("'" + word + "' in the source", found, false);
        }
        due("methods of more than sixty lines", longMethods(text).toString(), "[]");
        due("signs above 127", text.chars().anyMatch(c -> c > 127), false);
    }

    private static List<String> longMethods(String text) {
        List<String> found = new ArrayList<>();
        String head = "";
        int lines = 0;
        for (String line : text.split("\n")) {
            lines++;
            if (line.matches("( {4}| {8})(?!if|for|while|switch)[a-zA-Z].*\\) \\{")) {
                head = line;
                lines = 0;
            } else if (!head.isEmpty() && line.equals(head.replaceAll("\\S.*", "}")) && lines > 60) {
                found.add(head.strip());
            }
        }
        return found;
    }

    /** All calls of a run live in one room: after it has been made, an object makes nothing more. */
    private static void room() {
        var bean = (com.sun.management.ThreadMXBean) ManagementFactory.getThreadMXBean();
        MissingHoles x = new MissingHoles();
        everyCall(x);
        long id = Thread.currentThread().getId();
        long ahead = bean.getThreadAllocatedBytes(id);
        for (int i = 0; i < 20; i++) {
            everyCall(x);
        }
        long made = bean.getThreadAllocatedBytes(id) - ahead;
        due("bytes that 20 rounds of all calls make are few: " + made, made < 4096, true);
    }

    /** The dearest call is the constructor: a run of nothing but new objects stays within half of the room. */
    private static void roomOfNewObjects() throws IllegalAccessException {
        Set<Object> found = Collections.newSetFromMap(new IdentityHashMap<>());
        long elements = elementsOf(new MissingHoles(), found);
        due("objects of " + CALLS + " new ones, " + found.size() + " each, are few", CALLS * found.size() < ROOM_OBJECTS / 2, true);
        due("elements of " + CALLS + " new ones, " + elements + " each, are few", CALLS * elements < ROOM_ELEMENTS / 2, true);
    }

    /** Fields and elements of an object and of all that it holds. */
    private static long elementsOf(Object o, Set<Object> found) throws IllegalAccessException {
        if (o == null || !found.add(o)) {
            return 0;
        }
        long all = 0;
        if (o.getClass().isArray()) {
            int length = Array.getLength(o);
            for (int i = 0; i < length && !o.getClass().getComponentType().isPrimitive(); i++) {
                all += elementsOf(Array.get(o, i), found);
            }
            return all + length;
        }
        for (Field f : o.getClass().getDeclaredFields()) {
            if (!Modifier.isStatic(f.getModifiers())) {
                f.setAccessible(true);
                all += 1 + (f.getType().isPrimitive() ? 0 : elementsOf(f.get(o), found));
            }
        }
        return all;
    }

    private static void everyCall(MissingHoles x) {
        x.feed(0x736c69702034323bL);
        x.end(8);
        x.text();
        x.fault();
        x.part(0, 0);
        x.rule(0);
        x.told(9, 5, 64);
        x.draw(9);
        x.seed(3);
        x.wreck(0, true);
        x.ground(0, 10, 2);
        x.known(0);
        x.share(2928, 1, 0);
        x.holes(2928, 1, 0);
        x.fits(2928);
        x.laws(0);
        x.span(0, 0);
        x.say(0, 1);
        x.cost();
        x.near(2928);
        x.lost(2928, 1, 0);
        x.best(2928);
        x.safest();
        x.drawing();
        x.wrong(2928);
        x.unlike(0);
        x.trial(0, 10, 21);
        x.sheet(0, 0, 48);
        x.lay(0, 0, 1);
        x.read(0, 0, 0, 12);
        x.torn();
        x.count(0);
        x.undo();
        x.undo();
        x.undo();
    }
}
