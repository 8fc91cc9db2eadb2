import java.io.IOException;
import java.lang.reflect.Field;
import java.lang.reflect.Method;
import java.lang.reflect.Modifier;
import java.nio.file.Files;
import java.nio.file.Path;
import java.util.ArrayList;
import java.util.HashSet;
import java.util.List;
import java.util.NoSuchElementException;
import java.util.Set;
import java.util.TreeSet;
import java.util.function.IntSupplier;

/** What can be looked at from outside of LANGUAGE.md, and that no call throws what it may not. */
public final class LanguageTest {
    private static final Set<String> FACE = Set.of("feed", "end", "levels", "fault", "add", "strike", "renumber",
        "error", "undo", "wait", "about", "label", "cited", "octet", "cite", "place", "bearers", "read", "suffix",
        "clash", "at", "count");
    private static final String[] RULED_OUT = {"package ", "protected ", "catch", "finally", "synchronized", "assert",
        "->", "::", "Exact(", "instanceof Object", "hashCode", "toString", "Random", "Thread", "System.out", "System.in",
        "currentTime", "nanoTime", "ordinal()", "String.", ".format(", "Iterator", "Map", "Set<", "volatile", "@"};

    public static void main(String[] args) throws IOException {
        face();
        for (Class<?> c : classes()) {
            members(c);
        }
        source(Files.readString(Path.of("src/main/java/LawNumberer.java")));
        for (int seed = 1; seed <= 20; seed++) {
            calm(seed);
        }
        fullHistory();
        Check.finish();
    }

    private static List<Class<?>> classes() {
        List<Class<?>> all = new ArrayList<>(List.of(LawNumberer.class.getDeclaredClasses()));
        Check.due("at most twelve classes", all.size() < 12, true);
        for (Class<?> c : all) {
            Check.due("static and no more than package-visible: " + c.getName(),
                Modifier.isStatic(c.getModifiers()) && (c.getModifiers() & (Modifier.PUBLIC | Modifier.PROTECTED)) == 0, true);
            Check.due("classes in " + c.getName(), c.getDeclaredClasses().length, 0);
        }
        all.add(LawNumberer.class);
        return all;
    }

    private static void face() {
        Set<String> open = new TreeSet<>();
        for (Method m : LawNumberer.class.getDeclaredMethods()) {
            if (!Modifier.isPrivate(m.getModifiers())) {
                Check.due("public: " + m.getName(), Modifier.isPublic(m.getModifiers()), true);
                Check.due("once: " + m.getName(), open.add(m.getName()), true);
            }
        }
        Check.due("the face", open.toString(), new TreeSet<>(FACE).toString());
        int constructors = LawNumberer.class.getConstructors().length;
        Check.due("constructors", constructors * 10 + LawNumberer.class.getDeclaredConstructors().length, 11);
        for (Field f : LawNumberer.class.getDeclaredFields()) {
            boolean isNone = f.getName().equals("NONE");
            Check.due("field " + f.getName(), Modifier.isPrivate(f.getModifiers()), !isNone);
        }
    }

    private static void members(Class<?> c) {
        int fields = 0;
        for (Field f : c.getDeclaredFields()) {
            fields += Modifier.isStatic(f.getModifiers()) ? 0 : 1;
            if (Modifier.isStatic(f.getModifiers())) {
                Check.due("final: " + f, Modifier.isFinal(f.getModifiers()), true);
            }
        }
        Check.due("at most twenty fields in " + c.getName(), fields <= 20, true);
        for (Method m : c.getDeclaredMethods()) {
            Check.due("at most seven parameters: " + m, m.getParameterCount() <= 7, true);
            if (c != LawNumberer.class || Modifier.isPrivate(m.getModifiers())) {
                Check.due("no name of the face: " + m, FACE.contains(m.getName()), false);
            }
        }
    }

    private static void source(String source) {
        Set<String> imports = new HashSet<>();
        int start = 0;
        int number = 0;
        for (String line : source.split("\n")) {
            number++;
            if (line.startsWith("import ")) {
                imports.add(line.substring(7, line.length() - 1));
            }
            if (line.matches("( {4}| {8})[a-zA-Z].*\\) (throws \\w+ )?\\{")) {
                start = number;
            }
            if (line.matches("( {4}| {8})\\}") && start > 0) {
                Check.due("at most sixty lines, from line " + start, number - start < 60, true);
            }
            for (int i = 0; i < line.length(); i++) {
                Check.due("signs 1 to 127 in line " + number, line.charAt(i) < 128, true);
            }
        }
        Check.due("imports", new TreeSet<>(imports).toString(), "[java.util.Arrays, java.util.NoSuchElementException]");
        for (String word : RULED_OUT) {
            Check.due("uses " + word, source.contains(word), false);
        }
    }

    /** Arguments of all sizes, far more calls than are promised: only what the document names is thrown. */
    private static void calm(int seed) {
        LawNumberer x = new LawNumberer();
        long[] chance = {seed};
        IntSupplier any = () -> {
            chance[0] = chance[0] * 6364136223846793005L + 1442695040888963407L;
            int bits = (int) (chance[0] >>> 32);
            int[] few = {Integer.MIN_VALUE, Integer.MAX_VALUE, -2, -1, 0, 1, 2, 79, 80, 199, 200, 999, 1000, 9999};
            int pick = (bits >>> 8) % 32 & 31;
            return pick < few.length ? few[pick] : pick < 30 ? (bits >>> 16) % 84 : bits;
        };
        for (int i = 0; i < 20000; i++) {
            call(x, Math.floorMod(any.getAsInt() * 31 + i, 24), any);
        }
    }

    /** Acts far beyond the 512 calls, until the history takes no more. */
    private static void fullHistory() {
        LawNumberer x = new LawNumberer();
        for (int k = 0; k < 80; k++) {
            x.add(LawNumberer.NONE, k - 1);
        }
        for (int i = 0; i < 50000; i++) {
            x.error(i % 80, 1 + i % 999, 0);
        }
        x.renumber(0);
        Check.due("undo", x.undo(), true);
        Check.due("still has a label", x.label(0, 0) > 0, true);
    }

    private static void call(LawNumberer x, int which, IntSupplier any) {
        int a = any.getAsInt();
        int b = any.getAsInt();
        switch (which) {
            case 0 -> x.feed(a, b, any.getAsInt(), any.getAsInt(), any.getAsInt());
            case 1 -> x.end(a);
            case 2 -> x.levels();
            case 3 -> Check.due("fault", x.fault() >= 0 && x.fault() <= 3, true);
            case 4, 5, 6 -> x.add(a, b);
            case 7 -> x.strike(a);
            case 8 -> x.renumber(a);
            case 9 -> x.error(a, b, any.getAsInt());
            case 10 -> x.undo();
            case 11 -> x.wait(a);
            case 12 -> quiet(() -> x.about(a, b));
            case 13 -> x.label(a, b);
            case 14 -> x.cited(a, b);
            case 15 -> quiet(() -> x.octet(a));
            case 16 -> x.cite(a);
            case 17 -> Check.due("place", x.place() >= -1 && x.place() <= 200, true);
            case 18 -> Check.due("bearers", x.bearers() >= 0 && x.bearers() <= 80, true);
            case 19 -> x.read(a);
            case 20 -> Check.due("suffix", x.suffix() >= 0, true);
            case 21 -> x.clash();
            case 22 -> x.at(a);
            default -> x.count(a);
        }
    }

    private static void quiet(IntSupplier call) {
        try {
            call.getAsInt();
        } catch (NoSuchElementException e) {
            return;
        }
    }
}
