import java.io.IOException;
import java.lang.management.ManagementFactory;
import java.lang.reflect.Field;
import java.lang.reflect.Method;
import java.lang.reflect.Modifier;
import java.nio.file.Files;
import java.nio.file.Path;
import java.util.ArrayList;
import java.util.Arrays;
import java.util.List;
import java.util.Set;
import java.util.TreeSet;
import java.util.stream.Collectors;

/** The face of the document, the rules of LANGUAGE.md that can be seen from outside, and what calls allocate. */
public final class LanguageTests {
    private static final Desk d = new Desk("LanguageTests");
    private static final Path SOURCE = Path.of("src/main/java/SeveralWishes.java");
    private static final Path TESTS = Path.of("src/test/java");
    private static final com.sun.management.ThreadMXBean THREADS =
            (com.sun.management.ThreadMXBean) ManagementFactory.getThreadMXBean();
    private static final Path DOCUMENT = Path.of("../shared/DOC.md");

    public static void main(String[] args) throws IOException {
        face();
        everyPromise();
        classes();
        source();
        nothingIsMade();
        d.end();
    }

    private static void none(String rule, Object found) {
        d.due(rule + " " + found, ((java.util.Collection<?>) found).size(), 0);
    }

    private static void face() throws IOException {
        TreeSet<String> due = new TreeSet<>();
        for (String line : Files.readAllLines(DOCUMENT)) {
            if (line.startsWith("    public ") && line.contains("(") && !line.contains("SeveralWishes(")) {
                String types = Arrays.stream(line.replaceAll(".*\\(|\\).*", "").split(","))
                        .map(p -> p.trim().replaceAll(" .*", "")).collect(Collectors.joining(","));
                due.add(line.trim().replaceAll("^public |\\(.*", "") + "(" + types + ")");
            }
        }
        d.due("calls of the document", due.size(), 40);
        TreeSet<String> is = new TreeSet<>();
        for (Method m : SeveralWishes.class.getDeclaredMethods()) {
            if (!Modifier.isPrivate(m.getModifiers()) && !m.isSynthetic()) {
                is.add(m.getReturnType() + " " + m.getName() + "(" + Arrays.stream(m.getParameterTypes())
                        .map(Class::getName).collect(Collectors.joining(",")) + ")");
            }
        }
        d.due("1: the face", is.toString(), due.toString());
        d.due("1: constructors", SeveralWishes.class.getDeclaredConstructors().length, 1);
        List<String> open = new ArrayList<>();
        for (Field f : SeveralWishes.class.getDeclaredFields()) {
            if (!Modifier.isPrivate(f.getModifiers())) {
                open.add(f.getName());
            }
        }
        d.due("1: constants", open.toString(), "[NONE]");
    }

    /** A check's words begin with the number of its promise: each promise has some, of its ordinary use and its edges. */
    private static void everyPromise() throws IOException {
        StringBuilder edges = new StringBuilder();
        for (String name : List.of("TextEdgeTests", "AnswerEdgeTests", "LawEdgeTests", "StateEdgeTests")) {
            edges.append(Files.readString(TESTS.resolve(name + ".java")));
        }
        String ordinary = Files.readString(TESTS.resolve("PromiseTests.java"));
        int promises = 0;
        for (String line : Files.readAllLines(DOCUMENT)) {
            if (line.matches("## Promise \\d+:.*")) {
                promises++;
                String words = "\"" + line.replaceAll("\\D*(\\d+):.*", "$1") + ": ";
                d.due("a test of its use: " + line, ordinary.contains(words) ? 1 : 0, 1);
                d.due("a test of its edges: " + line, edges.indexOf(words) >= 0 ? 1 : 0, 1);
            }
        }
        d.due("promises of the document", promises, 41);
    }

    private static void classes() {
        Set<String> face = Arrays.stream(SeveralWishes.class.getMethods()).map(Method::getName)
                .collect(Collectors.toSet());
        List<Class<?>> all = new ArrayList<>(List.of(SeveralWishes.class.getDeclaredClasses()));
        for (Class<?> c : all) {
            int is = c.getModifiers();
            d.due("2: " + c, Modifier.isStatic(is) && !Modifier.isPublic(is) && !Modifier.isProtected(is) ? 1 : 0, 1);
        }
        all.add(SeveralWishes.class);
        d.due("11: classes", Math.max(12, all.size()), 12);
        List<String> wrong = new ArrayList<>();
        for (Class<?> c : all) {
            int fields = 0;
            for (Field f : c.getDeclaredFields()) {
                boolean constant = Modifier.isStatic(f.getModifiers());
                fields += constant ? 0 : 1;
                if (constant && !Modifier.isFinal(f.getModifiers())) {
                    wrong.add("5: " + f);
                }
            }
            if (fields > 20) {
                wrong.add("11: fields of " + c);
            }
            for (Method m : c.getDeclaredMethods()) {
                boolean shown = c == SeveralWishes.class && Modifier.isPublic(m.getModifiers());
                if (!shown && face.contains(m.getName())) {
                    wrong.add("1: " + m);
                }
                if (m.getParameterCount() > 7) {
                    wrong.add("11: " + m);
                }
            }
        }
        none("rules", wrong);
    }

    /** What LANGUAGE.md rules out and can be seen in a line; what it allows is not asked here. */
    private static void source() throws IOException {
        List<String> wrong = new ArrayList<>();
        String method = "";
        int begun = 0;
        int line = 0;
        for (String text : Files.readAllLines(SOURCE)) {
            line++;
            String code = text.replaceAll("\"[^\"]*\"", "\"\"").replaceAll("//.*|^\\s*/?\\*.*", "");
            if (code.matches(".*\\b(throw|throws|try|catch|synchronized|assert|package|native|volatile|hashCode)\\b.*")
                    || code.matches(".*(::|\\bMath\\.\\w*Exact|System\\.(?!arraycopy)|\\bRandom\\b|\\bThread\\b).*")
                    || code.contains("->") && !code.matches("\\s*(case|default)\\b.*")) {
                wrong.add(line + ": " + text.trim());
            }
            if (code.matches(" {4}( {4})?\\S.*\\) \\{") && !code.matches(".*\\b(if|for|while|switch|else|class)\\b.*")) {
                method = code.trim();
                begun = line;
            }
            if (code.matches(" {4}( {4})?\\}") && !method.isEmpty()) {
                if (line - begun > 60) {
                    wrong.add("11: " + method);
                }
                method = "";
            }
            if (!text.matches("[\\t -~]*")) {
                wrong.add(line + ": a sign that is not 32 to 126");
            }
        }
        none("source", wrong);
    }

    /** Rule 12: all rows are made in the constructor; a call makes nothing. */
    private static void nothingIsMade() {
        String problem = "of:3;wish:3x+2y+z;least:x-2z;wish:y;keep:3x+2y-z<13;keep:2x+3y+z<17;keep:x-2y+3z>1"
                + ";keep:x+y+z<14;box:x<7;box:z<8";
        long made = 0;
        for (int round = 0; round < 3; round++) {
            made = 0;
            int corners = d.fresh().problem(problem);
            for (int i = -1; i <= corners; i++) {
                d.fresh().problem(problem);
                d.feed("vi*a/[b-3](a>2|!(b<c&t=3));x(n<e)");
                made += madeByAsking(i);
            }
        }
        d.due("12: bytes made by calls", made, 0);
    }

    private static long madeByAsking(int i) {
        SeveralWishes x = d.x();
        long asking = bytes();
        long before = bytes();
        askAll(x, i);
        return bytes() - before - (before - asking);
    }

    private static long bytes() {
        return THREADS.getThreadAllocatedBytes(Thread.currentThread().getId());
    }

    /** 347 calls. */
    private static void askAll(SeveralWishes x, int i) {
        x.law(33);
        for (int what = -1; what < 13; what++) {
            x.corner(i, what);
            x.wishAt(i, what / 2, what % 2);
            x.cornerIs(i, what);
            x.edge(i, what);
            x.reach(i, what, true);
            x.along(i, what, 3);
            x.slack(i, what, 0);
            x.far(i, what);
            x.price(i, what, 0, 1, 0);
            x.walk(i, 1, 2, 3, what);
            x.spelt(i, what);
            x.all(what);
            x.face(what, 2);
            x.plane(what, 3);
            x.weights(i, what);
            x.turn(what);
            x.ranked(what, i);
            x.plan(what, i, 0);
            x.gain(what, i, 0, 0);
            x.better(what, i, 0, 0);
            x.needed(what);
            x.shadow(what, 1, 2, 3, 0);
            x.problemIs(what);
            x.wish(what, 0);
        }
        x.middle(true, i);
        x.ideal(i, 0);
        x.best(i, 1, 1, 0);
        x.heldAt(0, 1, i, 0);
        x.whole(1, 2, i, 2);
        x.regret(i);
        x.area(i);
        x.chosen(0);
        x.behind(102);
        x.keep();
        x.undo();
        x.feed(1, 2, 3, 4, 5);
        x.check(9);
        x.count(1);
    }
}
