import java.lang.management.ManagementFactory;
import java.lang.reflect.Constructor;
import java.lang.reflect.Field;
import java.lang.reflect.Member;
import java.lang.reflect.Method;
import java.lang.reflect.Modifier;
import java.nio.charset.StandardCharsets;
import java.nio.file.Files;
import java.nio.file.Path;
import java.util.HashSet;
import java.util.List;
import java.util.Set;
import java.util.TreeSet;
import java.util.regex.Pattern;

/** The face, those rules of ../shared/LANGUAGE.md that can be seen from outside, and that no call makes an object. */
final class LanguageTest {
    private static final Due due = new Due("LanguageTest");
    private static final String SOURCE = "src/main/java/AsManyAsCame.java";
    private static final String[] FACE = {
        "int row(int, int, int)", "int set(int, int, int)", "int copy(int, int, int, int, int)", "int drop(int)",
        "int feed(long, int)", "int town()", "int fault()", "int day(int, int)", "int born()", "int smuggle(int)",
        "int call(int)", "int person(int, int)", "int out(int, int, int)", "int span(int, int, int, int, int)",
        "int odds(int, int, int, int, int)", "int hire(int, int, int)", "int swaps(int, int)", "int lasts(int, int)",
        "int unseen(int, int, int)", "int gates(int, int, int, int)", "int image(int)", "int restore(int)",
        "int kind(int)", "int as(int, int)", "int ask(int, int)", "int trace(int)", "int count(int)", "int status()"};
    private static final String[] FORBIDDEN = {
        "\\bthrow\\b", "\\btry\\b", "\\bcatch\\b", "\\bsynchronized\\b", "\\bassert\\b", "->", "::", "\\bimport\\b",
        "\\bpackage\\b", "\\bequals\\b", "\\bhashCode\\b", "\\btoString\\b", "\\bjava\\.", "\\bSystem\\b(?!\\.arraycopy)",
        "\\bObject\\b", "\\bThread\\b", "\\bException\\b", "Exact\\(", "\" *\\+", "\\+ *\"", "\\bstatic *\\{",
        "\\bprotected\\b", "\\bpublic static (?!final)"};

    public static void main(String[] args) throws Exception {
        face();
        members();
        source();
        noObjects();
        due.end();
    }

    private static void face() throws Exception {
        Class<?> c = AsManyAsCame.class;
        due.is("public and final", c.getModifiers(), Modifier.PUBLIC | Modifier.FINAL);
        Set<String> want = new TreeSet<>(List.of(FACE));
        Set<String> got = new TreeSet<>();
        Set<String> names = new HashSet<>();
        for (Method m : c.getDeclaredMethods()) {
            if (!Modifier.isPrivate(m.getModifiers())) {
                StringBuilder s = new StringBuilder(m.getReturnType().toString()).append(' ').append(m.getName());
                s.append('(');
                for (Class<?> p : m.getParameterTypes()) {
                    s.append(s.charAt(s.length() - 1) == '(' ? "" : ", ").append(p);
                }
                got.add(s.append(')').toString());
                names.add(m.getName());
                due.is("public alone: " + m, m.getModifiers(), Modifier.PUBLIC);
            }
        }
        due.is("the face " + got, got.equals(want) ? 1 : 0, 1);
        Set<String> constants = new TreeSet<>();
        for (Field f : c.getDeclaredFields()) {
            if (!Modifier.isPrivate(f.getModifiers())) {
                constants.add(f.getName());
            }
        }
        due.is("constants " + constants, constants.equals(Set.of("NONE", "BAD", "STATE", "FULL")) ? 1 : 0, 1);
        Constructor<?>[] made = c.getDeclaredConstructors();
        due.is("one constructor", made.length, 1);
        due.is("without parameters", made[0].getParameterCount(), 0);
        for (Method m : c.getDeclaredMethods()) {
            boolean hidden = Modifier.isPrivate(m.getModifiers());
            due.is("a private method with a public one's name: " + m, hidden && names.contains(m.getName()) ? 1 : 0, 0);
        }
    }

    private static void members() {
        Class<?>[] inside = AsManyAsCame.class.getDeclaredClasses();
        due.is("some twelve classes", inside.length < 12 ? 1 : 0, 1);
        for (Class<?> c : inside) {
            int m = c.getModifiers();
            due.is("static: " + c, Modifier.isStatic(m) && !Modifier.isPublic(m) ? 1 : 0, 1);
            due.is("within no class inside: " + c, c.getDeclaredClasses().length, 0);
            handsOutNothing(c);
            inside(c);
        }
        inside(AsManyAsCame.class);
    }

    /** A constructor that takes numbers alone is given no part of the object that is being made. */
    private static void handsOutNothing(Class<?> c) {
        for (Constructor<?> made : c.getDeclaredConstructors()) {
            for (Class<?> parameter : made.getParameterTypes()) {
                due.is("a number: " + parameter + " of " + made, parameter.isPrimitive() ? 1 : 0, 1);
            }
        }
    }

    private static void inside(Class<?> c) {
        int own = 0;
        Set<String> names = new HashSet<>();
        for (Field f : c.getDeclaredFields()) {
            due.is("a static field is final: " + f, isFree(f) ? 1 : 0, 0);
            own += Modifier.isStatic(f.getModifiers()) ? 0 : 1;
        }
        due.is("some twenty fields: " + c, own <= 20 ? 1 : 0, 1);
        for (Method m : c.getDeclaredMethods()) {
            due.is("seven parameters: " + m, m.getParameterCount() <= 7 ? 1 : 0, 1);
            // One that calls another of its own name would look like a recursion without a guard.
            due.is("a name of its own: " + m, names.add(m.getName()) ? 1 : 0, 1);
        }
    }

    private static boolean isFree(Member m) {
        return Modifier.isStatic(m.getModifiers()) && !Modifier.isFinal(m.getModifiers());
    }

    private static void source() throws Exception {
        String text = Files.readString(Path.of(SOURCE), StandardCharsets.ISO_8859_1);
        due.is("signs 1 to 126", text.chars().filter(c -> c > 126 || c < 32 && c != '\n').count(), 0);
        String code = text.replaceAll("(?s)/\\*.*?\\*/", "").replaceAll("//[^\n]*", "");
        for (String forbidden : FORBIDDEN) {
            due.is("forbidden: " + forbidden, Pattern.compile(forbidden).matcher(code).find() ? 1 : 0, 0);
        }
        int begun = 0;
        String[] lines = text.split("\n");
        for (int i = 0; i < lines.length; i++) {
            if (lines[i].matches("( {4}| {8})[a-z].*\\) \\{")) {
                begun = i;
            }
            due.is("a method of sixty lines ends at line " + (i + 1),
                    lines[i].matches("( {4}| {8})\\}") && i - begun > 60 ? 1 : 0, 0);
        }
    }

    /** Every call, so that what one of them makes is seen; by numbers alone, so that the test makes nothing. */
    private static int calls(AsManyAsCame x, int round) {
        int sum = x.row(round & 7, 0, 20) + x.set(round & 7, 1, 2) + x.copy(0, 0, 1, 1, 3) + x.feed(round, 1);
        sum += x.fault() + x.day(2, 1) + x.born() + x.smuggle(1) + x.call(1) + x.person(0, 4);
        sum += x.out(2, 0, 20) + x.span(2, 0, 0, 20, 1) + x.odds(2, 0, 1, 8, 0) + x.hire(31, 0, 20) + x.swaps(2, 1);
        sum += x.lasts(0, 20) + x.unseen(0, 6, 0) + x.gates(9, 9, 3, 1000) + x.image(0) + x.restore(0);
        return sum + x.kind(0) + x.as(0, 1) + x.ask(0, 0) + x.trace(0) + x.count(0) + x.status();
    }

    private static int read(AsManyAsCame x) {
        x.town();
        x.feed(0x746f776e206c6973L, 8);
        x.feed(0x7420312031203132L, 8);
        x.feed(0x3b706572736f6e20L, 8);
        x.feed(0x626f726e20312031L, 8);
        x.feed(';', 1);
        return x.town();
    }

    private static void noObjects() {
        java.lang.management.ThreadMXBean bean = ManagementFactory.getThreadMXBean();
        if (!(bean instanceof com.sun.management.ThreadMXBean)) {
            return;
        }
        com.sun.management.ThreadMXBean counter = (com.sun.management.ThreadMXBean) bean;
        if (!counter.isThreadAllocatedMemorySupported()) {
            return;
        }
        AsManyAsCame x = new AsManyAsCame();
        long me = Thread.currentThread().getId();
        long before = 0;
        int sum = 0;
        for (int round = 0; round < 300; round++) {
            if (round == 100) {
                before = counter.getThreadAllocatedBytes(me);
            }
            sum += read(x) + calls(x, round);
        }
        long made = counter.getThreadAllocatedBytes(me) - before;
        due.is("the town of one person is read", read(x), 1);
        due.is("200 rounds of all calls made " + made + " bytes, sum " + sum, made < 3200 ? 1 : 0, 1);
    }
}
