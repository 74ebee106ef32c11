import java.lang.management.ManagementFactory;
import java.lang.reflect.Constructor;
import java.lang.reflect.Field;
import java.lang.reflect.Member;
import java.lang.reflect.Method;
import java.lang.reflect.Modifier;
import java.nio.charset.StandardCharsets;
import java.nio.file.Files;
import java.nio.file.Path;
import java.util.Arrays;
import java.util.HashSet;
import java.util.List;
import java.util.Set;
import java.util.TreeSet;
import java.util.regex.Matcher;
import java.util.regex.Pattern;

/** The rules of LANGUAGE.md that a machine can look at: the face, the words, the room. */
public final class LanguageTest {
    private static final Path SOURCE = Path.of("src/main/java/NobodyTwice.java");
    private static final List<String> FACE = List.of(
        "int valley()", "int prize(int, int, int)", "int one(int, int, int, int)", "int type(int)", "int clear()", "int read()",
        "int year()", "int undo()", "int of(int, int)", "int about(int, int)", "int good(int, int, int)", "int enter(int)",
        "int winner(int, int)", "int end(int, int)", "int left()", "int best(int, int)", "int rivals(int, int, int)",
        "int handicap(int)", "int order(int)", "int note(int, int, int, int)", "int beaten(int, int, int, int)", "int forget(int)",
        "int is(int)", "int offer(int)", "int may(int, int)", "int clash()", "int odds(int, int)", "int valleys(int, int)",
        "long part(int)", "int image(int)", "int from(int)", "int status(int)", "int count(int)", "long digest()",
        "NobodyTwice()", "BAD", "FULL", "NO", "NONE");
    private static final List<String> FORBIDDEN = List.of(
        "\\b(throw|throws|try|catch|finally|synchronized|assert|protected|native|volatile|transient)\\b",
        "->", "::", "@\\w", "Exact\\b", "\\bpackage\\b", "\\bstatic\\s*\\{", "\\b(equals|hashCode|toString)\\b",
        "\\bimport (?!java\\.util\\.(Arrays|ArrayList|List|Iterator);)", "\\[\\]\\s*\\[\\]\\s*\\[\\]", "[^\\x00-\\x7f]");

    private static int wrong = 0;

    public static void main(String[] args) throws Exception {
        lookAtFace();
        String source = Files.readString(SOURCE, StandardCharsets.UTF_8);
        lookAtWords(source.replaceAll("(?s)/\\*.*?\\*/", "").replaceAll("//[^\n]*", ""));
        lookAtMethods();
        lookAtLengths(source);
        lookAtRoom();
        System.out.println(wrong == 0 ? "the rules are kept" : wrong + " rules are broken");
        if (wrong != 0) {
            System.exit(1);
        }
    }

    private static void broken(String what) {
        wrong++;
        System.out.println(what);
    }

    private static void lookAtFace() {
        Class<?> c = NobodyTwice.class;
        if (!Modifier.isFinal(c.getModifiers()) || !Modifier.isPublic(c.getModifiers())) {
            broken("the class is not public and final");
        }
        Set<String> seen = new TreeSet<>();
        for (Method m : c.getDeclaredMethods()) {
            String types = String.join(", ", Arrays.stream(m.getParameterTypes()).map(Class::getName).toList());
            see(seen, m, m.getReturnType() + " " + m.getName() + "(" + types + ")");
        }
        for (Constructor<?> m : c.getDeclaredConstructors()) {
            see(seen, m, m.getParameterCount() == 0 ? "NobodyTwice()" : m.toString());
        }
        for (Field f : c.getDeclaredFields()) {
            see(seen, f, f.getName());
        }
        if (!seen.equals(new TreeSet<>(FACE))) {
            broken("the face is " + seen);
        }
    }

    private static void see(Set<String> seen, Member m, String told) {
        if (!Modifier.isPrivate(m.getModifiers())) {
            seen.add(Modifier.isPublic(m.getModifiers()) ? told : "not public: " + told);
        }
    }

    private static void lookAtWords(String code) {
        for (String pattern : FORBIDDEN) {
            Matcher m = Pattern.compile(pattern).matcher(code);
            if (m.find()) {
                broken("not in the language: " + m.group());
            }
        }
    }

    private static void lookAtMethods() {
        Set<String> open = new HashSet<>();
        for (Method m : NobodyTwice.class.getDeclaredMethods()) {
            if (Modifier.isPublic(m.getModifiers())) {
                open.add(m.getName());
            }
        }
        Class<?>[] inside = NobodyTwice.class.getDeclaredClasses();
        if (inside.length > 11) {
            broken("too many classes");
        }
        lookAtMembers(NobodyTwice.class, Set.of());
        for (Class<?> c : inside) {
            if (!Modifier.isStatic(c.getModifiers()) && !c.isInterface()) {
                broken("not static: " + c);
            }
            lookAtMembers(c, open);
        }
        for (Method m : NobodyTwice.class.getDeclaredMethods()) {
            if (Modifier.isPrivate(m.getModifiers()) && open.contains(m.getName())) {
                broken("a private method with a public name: " + m);
            }
        }
    }

    private static void lookAtMembers(Class<?> c, Set<String> taken) {
        int fields = 0;
        for (Field f : c.getDeclaredFields()) {
            boolean fixed = Modifier.isStatic(f.getModifiers());
            fields += fixed ? 0 : 1;
            if (fixed && !Modifier.isFinal(f.getModifiers())) {
                broken("static and not final: " + f);
            }
        }
        if (fields > 20) {
            broken("too many fields: " + c);
        }
        for (Method m : c.getDeclaredMethods()) {
            if (m.getParameterCount() > 7) {
                broken("too many parameters: " + m);
            }
            if (taken.contains(m.getName())) {
                broken("a method inside with a public name: " + m);
            }
        }
    }

    private static void lookAtLengths(String source) {
        List<String> lines = List.of(source.split("\n"));
        Pattern head = Pattern.compile("( {4}| {8})(?!if|for|while|switch|\\})\\w.*\\) \\{");
        int methods = 0;
        for (int i = 0; i < lines.size(); i++) {
            Matcher m = head.matcher(lines.get(i));
            if (m.matches()) {
                methods++;
                int length = lines.subList(i, lines.size()).indexOf(m.group(1) + "}");
                if (length < 0 || length > 60) {
                    broken("a long method: " + lines.get(i).trim());
                }
            }
        }
        if (methods < FACE.size() - 4) {
            broken("only " + methods + " methods were seen");
        }
    }

    /** Nothing is made by a call: what a run needs stands when the object does. */
    private static void lookAtRoom() {
        com.sun.management.ThreadMXBean threads = (com.sun.management.ThreadMXBean) ManagementFactory.getThreadMXBean();
        long id = Thread.currentThread().getId();
        NobodyTwice x = new NobodyTwice();
        dearCalls(x, 3);
        long before = threads.getThreadAllocatedBytes(id);
        dearCalls(x, 40);
        long made = threads.getThreadAllocatedBytes(id) - before;
        if (made > 4096) {
            broken("calls made objects of " + made + " bytes");
        }
    }

    private static void dearCalls(NobodyTwice x, int times) {
        for (int i = 0; i < times; i++) {
            x.clear();
            x.type('v');
            x.read();
            x.one(i % 6, 5, 5, 5);
            x.prize(i % 8, i % 3, 1 + i % 30);
            x.rivals(0, 1, 0);
            x.order(0);
            x.best(0, 0);
            x.end(0, 0);
            x.left();
            x.odds(0, 7);
            x.valleys(5, 60);
            x.year();
            x.undo();
            x.image(0);
            x.from(0);
            x.is(0);
            x.offer(0);
            x.may(0, 0);
            x.clash();
            x.handicap(0);
            x.digest();
        }
    }
}
