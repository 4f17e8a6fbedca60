import java.lang.management.ManagementFactory;
import java.lang.reflect.Constructor;
import java.lang.reflect.Field;
import java.lang.reflect.Method;
import java.lang.reflect.Modifier;
import java.nio.file.Files;
import java.nio.file.Path;
import java.util.Set;
import java.util.TreeSet;
import java.util.regex.Matcher;
import java.util.regex.Pattern;

/** The rules of ../shared/LANGUAGE.md that can be looked at from outside, and the room that calls take. */
public final class RulesTest {
    private static final Set<String> METHODS = Set.of("man", "of", "steady", "change", "fear", "row", "feed", "charter", "told",
        "pass", "on", "best", "hear", "can", "odds", "mean", "plan", "ends", "book", "looked", "judge", "image", "undo", "act",
        "trace", "taken", "count", "tape", "item", "read", "shift");
    private static final Set<String> CONSTANTS = Set.of("NONE", "BAD", "STATE", "FULL", "NO");

    /** How often the dear calls come; many stay within the 512 calls of an object. */
    private static final int FEW = 10, MANY = 100;

    public static void main(String[] args) throws Exception {
        face();
        inside();
        words();
        library();
        room();
        Due.end();
    }

    private static void is(String rule, boolean holds) {
        Due.due(rule, holds ? 1 : 0, 1);
    }

    private static void face() {
        Set<String> open = new TreeSet<>();
        Set<String> hidden = new TreeSet<>();
        for (Method m : CellarPlot.class.getDeclaredMethods()) {
            is("rule 1: public or private: " + m, Modifier.isPublic(m.getModifiers()) || Modifier.isPrivate(m.getModifiers()));
            (Modifier.isPublic(m.getModifiers()) ? open : hidden).add(m.getName());
        }
        is("rule 1: methods", open.equals(new TreeSet<>(METHODS)));
        hidden.retainAll(open);
        is("rule 1: private names that are public ones: " + hidden, hidden.isEmpty());
        Set<String> constants = new TreeSet<>();
        for (Field f : CellarPlot.class.getDeclaredFields()) {
            is("rule 1: public or private: " + f, Modifier.isPublic(f.getModifiers()) || Modifier.isPrivate(f.getModifiers()));
            if (Modifier.isPublic(f.getModifiers())) {
                constants.add(f.getName());
            }
            if (Modifier.isStatic(f.getModifiers())) {
                is("rule 5: final: " + f, Modifier.isFinal(f.getModifiers()));
            }
        }
        is("rule 1: constants", constants.equals(new TreeSet<>(CONSTANTS)));
        Constructor<?>[] made = CellarPlot.class.getDeclaredConstructors();
        is("rule 1: one constructor", made.length == 1 && Modifier.isPublic(made[0].getModifiers()));
        is("rule 1: final", Modifier.isFinal(CellarPlot.class.getModifiers()));
    }

    private static void inside() {
        Class<?>[] inside = CellarPlot.class.getDeclaredClasses();
        is("rule 11: classes", inside.length + 1 <= 12);
        for (Class<?> one : inside) {
            is("rule 2: static: " + one, Modifier.isStatic(one.getModifiers()));
            is("rule 1: not public: " + one, !Modifier.isPublic(one.getModifiers()));
            int fields = 0;
            for (Field f : one.getDeclaredFields()) {
                fields += Modifier.isStatic(f.getModifiers()) ? 0 : 1;
            }
            is("rule 11: fields of " + one, fields <= 20);
            for (Method m : one.getDeclaredMethods()) {
                is("rule 11: parameters of " + m, m.getParameterCount() <= 7);
            }
        }
    }

    private static void words() throws Exception {
        String source = Files.readString(Path.of("src/main/java/CellarPlot.java"));
        for (char sign : source.toCharArray()) {
            is("signs 1 to 127", sign > 0 && sign < 128);
        }
        String code = source.replaceAll("(?s)/\\*.*?\\*/", " ").replaceAll("//[^\n]*", " ");
        Matcher words = Pattern.compile("\\b(throw|throws|try|catch|finally|synchronized|assert|import|package|instanceof|float|double"
            + "|Object|hashCode|toString|equals|\\w*Exact)\\b|->|::").matcher(code);
        while (words.find()) {
            is("rules 3, 4, 6: " + words.group(), false);
        }
        is("rule 10: texts joined by +", !Pattern.compile("\"\\s*\\+|\\+\\s*\"").matcher(code).find());
        int lines = 0;
        for (String line : source.split("\n")) {
            boolean begins = line.matches(" {4,8}(public |private |static )*[\\w<>\\[\\]]+ \\w+\\(.*\\{");
            lines = begins ? 0 : lines + 1;
            if (line.matches(" {4}( {4})?\\}")) {
                is("rule 11: a short method ends at: " + line, lines <= 60);
                lines = 0;
            }
        }
    }

    /** Each name behind a class's name, and each call on a text, is one of those that rule 4 lists. */
    private static void library() throws Exception {
        String source = Files.readString(Path.of("src/main/java/CellarPlot.java"));
        String code = source.replaceAll("(?s)/\\*.*?\\*/", " ").replaceAll("//[^\n]*", " ");
        Set<String> listed = Set.of("Long.MIN_VALUE", "Integer.bitCount", "Math.abs", "Math.max", "Math.min", "System.arraycopy",
            "LETTERS.indexOf");
        Matcher names = Pattern.compile("\\b[A-Z]\\w*\\.\\w+").matcher(code);
        while (names.find()) {
            is("rule 4: " + names.group(), listed.contains(names.group()));
        }
        Matcher types = Pattern.compile("\\bnew (\\w+)").matcher(code);
        Set<String> made = Set.of("int", "long", "byte", "Cellar", "Charter", "Text", "Acts", "Tape", "Rows");
        while (types.find()) {
            is("rules 3, 4: new " + types.group(1), made.contains(types.group(1)));
        }
    }

    private static long taken() {
        return ((com.sun.management.ThreadMXBean) ManagementFactory.getThreadMXBean())
            .getThreadAllocatedBytes(Thread.currentThread().getId());
    }

    /** What one object takes, and so many times the dear calls of a kind, at most five of them at a time. */
    private static long roomOf(int kindOfCall, int times) {
        long before = taken();
        CellarPlot x = new CellarPlot();
        for (int n = 0; n < 6; n++) {
            x.man(n + 1, n, n);
        }
        for (int n = 0; n < times; n++) {
            switch (kindOfCall) {
                case 0: x.charter(); break;
                case 1: x.best(12, n % 3); break;
                case 2: x.told(n % 10); break;
                case 3: x.of(n % 6, 6); x.hear(12, 5); break;
                case 4: x.image(); x.undo(); break;
                case 5: x.tape(n % 6, n % 5, 60); x.shift(0, 0, 0, 1, 9); break;
                case 6: x.on(60, 3); x.odds(20, 0); break;
                case 7: x.feed('c'); x.act(n % 6, 2, n); break;
                default: x.plan(0, 0); x.ends(0); x.book(0, 0); x.looked(); x.can(0, 0); break;
            }
        }
        return taken() - before;
    }

    private static void room() {
        for (int kindOfCall = 0; kindOfCall < 9; kindOfCall++) {
            roomOf(kindOfCall, MANY);
            long few = roomOf(kindOfCall, FEW);
            long many = roomOf(kindOfCall, MANY);
            is("room of an object, calls " + kindOfCall + ": " + many + " bytes", many < 20000);
            is("room of calls " + kindOfCall + " alone: " + (many - few) + " bytes", many - few < 16 * (MANY - FEW) / 2);
        }
    }
}
