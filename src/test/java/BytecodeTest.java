import java.io.PrintWriter;
import java.io.StringWriter;
import java.lang.reflect.Method;
import java.lang.reflect.Modifier;
import java.nio.file.Path;
import java.util.ArrayList;
import java.util.HashMap;
import java.util.List;
import java.util.Map;
import java.util.Set;
import java.util.TreeMap;
import java.util.TreeSet;
import java.util.regex.Matcher;
import java.util.regex.Pattern;
import java.util.spi.ToolProvider;

/** The rules of LANGUAGE.md that the compiled class shows: which library it calls, what it never does, how deep its calls go. */
public final class BytecodeTest {
    private static final int DEEPEST = 8;
    // what LANGUAGE.md lists and the class has use for; another line of that list may be put here when it is needed
    private static final Set<String> LIBRARY = Set.of(
        "java/lang/Object.<init>", "java/lang/System.arraycopy", "java/util/Arrays.fill", "java/lang/Math.max",
        "java/lang/Integer.bitCount", "java/lang/String.length", "java/lang/String.charAt");
    private static final Pattern HEAD = Pattern.compile("  (?:[\\w$\\[\\]. ]* )?([\\w$]+)\\(.*\\);");
    private static final Pattern INVOKE = Pattern.compile(" +\\d+: (invoke\\w+) .*// (?:Interface)?Method (?:([\\w/$]+)\\.)?\"?([\\w<>]+)\"?:.*");
    // a throw, a lock, a lambda or a joined text, a cast among classes
    private static final Pattern NEVER = Pattern.compile(" +\\d+: (athrow|monitorenter|invokedynamic|checkcast|instanceof|multianewarray)\\b.*");
    private static final Pattern MAKES = Pattern.compile(" +\\d+: (new|newarray|anewarray)\\b.*");

    private static int wrong = 0;
    private static final Map<String, Set<String>> calls = new TreeMap<>();
    private static final Map<String, Integer> depths = new HashMap<>();
    private static final List<Class<?>> classes = new ArrayList<>(List.of(NobodyTwice.class));

    public static void main(String[] args) {
        classes.addAll(List.of(NobodyTwice.class.getDeclaredClasses()));
        for (Class<?> c : classes) {
            lookAtCode(c);
        }
        int deepest = 0;
        for (Method m : NobodyTwice.class.getDeclaredMethods()) {
            if (Modifier.isPublic(m.getModifiers())) {
                int depth = depthOf("NobodyTwice." + m.getName(), new ArrayList<>());
                deepest = Math.max(deepest, depth);
                if (depth > DEEPEST) {
                    broken(m.getName() + " goes " + depth + " deep");
                }
            }
        }
        if (calls.size() < 100 || deepest < 3) {
            broken("the code was not seen: " + calls.size() + " methods, " + deepest + " deep");
        }
        System.out.println(wrong == 0 ? calls.size() + " methods, " + deepest + " deep at most" : wrong + " rules are broken");
        if (wrong != 0) {
            System.exit(1);
        }
    }

    private static void broken(String what) {
        wrong++;
        System.out.println(what);
    }

    private static String codeOf(Class<?> c) {
        StringWriter out = new StringWriter();
        PrintWriter writer = new PrintWriter(out);
        Path file = Path.of(System.getProperty("java.class.path")).resolve(c.getName() + ".class");
        int failed = ToolProvider.findFirst("javap").orElseThrow().run(writer, writer, "-p", "-c", file.toString());
        if (failed != 0) {
            broken("no code of " + c);
        }
        return out.toString();
    }

    private static void lookAtCode(Class<?> c) {
        String method = "";
        for (String line : codeOf(c).split("\\R")) {
            Matcher head = HEAD.matcher(line);
            Matcher invoke = INVOKE.matcher(line);
            if (head.matches()) {
                method = c.getName() + "." + (head.group(1).equals(c.getName()) ? "<init>" : head.group(1));
                calls.putIfAbsent(method, new TreeSet<>());
            } else if (invoke.matches()) {
                String owner = invoke.group(2) == null ? c.getName() : invoke.group(2);
                calls.get(method).addAll(targets(invoke.group(1), owner, invoke.group(3)));
            } else if (NEVER.matcher(line).matches() || line.contains("Exception table:")) {
                broken(method + " has " + line.trim());
            } else if (MAKES.matcher(line).matches() && !method.endsWith(".<init>")) {
                broken(method + " makes an object: " + line.trim());
            }
        }
    }

    /** What a call may run: of a class inside the one told or the nearest above it, and those that stand in its place below. */
    private static Set<String> targets(String how, String owner, String name) {
        Set<String> found = new TreeSet<>();
        Class<?> told = classes.stream().filter(c -> c.getName().equals(owner)).findFirst().orElse(null);
        if (told == null) {
            if (!LIBRARY.contains(owner + "." + name)) {
                broken("not in the library: " + owner + "." + name);
            }
            return found;
        }
        if (name.equals("<init>")) {
            return Set.of(owner + ".<init>");
        }
        for (Class<?> c = told; c != null && found.isEmpty(); c = c.getSuperclass()) {
            if (declares(c, name)) {
                found.add(c.getName() + "." + name);
            }
        }
        for (Class<?> c : classes) {
            if (how.equals("invokevirtual") && told.isAssignableFrom(c) && declares(c, name)) {
                found.add(c.getName() + "." + name);
            }
        }
        return found;
    }

    private static boolean declares(Class<?> c, String name) {
        for (Method m : c.getDeclaredMethods()) {
            if (m.getName().equals(name)) {
                return true;
            }
        }
        return false;
    }

    private static int depthOf(String method, List<String> open) {
        if (open.contains(method)) {
            broken("recursion: " + open + " " + method);
            return 0;
        }
        if (!depths.containsKey(method)) {
            open.add(method);
            int deepest = 0;
            for (String called : calls.getOrDefault(method, Set.of())) {
                deepest = Math.max(deepest, depthOf(called, open));
            }
            open.remove(method);
            depths.put(method, 1 + deepest);
        }
        return depths.get(method);
    }
}
