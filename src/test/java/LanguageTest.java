import java.io.IOException;
import java.lang.reflect.Field;
import java.lang.reflect.Method;
import java.lang.reflect.Modifier;
import java.nio.file.Files;
import java.nio.file.Path;
import java.util.ArrayList;
import java.util.HashMap;
import java.util.List;
import java.util.Map;
import java.util.Set;
import java.util.TreeMap;
import java.util.TreeSet;
import java.util.regex.Matcher;
import java.util.regex.Pattern;

/** Those rules of LANGUAGE.md that a machine can look at, and the face of the document. */
public final class LanguageTest {
    private static final Set<String> FACE = Set.of("feed/5", "end/1", "pond/0", "fault/1", "ice/2", "load/2", "skater/2", "play/1", "hold/1", "undo/0",
        "redo/0", "order/1", "duel/3", "planks/1", "hush/2", "breaks/2", "lies/1", "sight/5", "seen/3", "untell/1", "later/1", "asked/2", "sure/3", "image/1",
        "back/1", "about/1");
    private static final Set<String> TRUTHS = Set.of("undo", "redo", "untell");

    private final Due due = new Due();

    public static void main(String[] args) throws IOException {
        LanguageTest test = new LanguageTest();
        List<String> lines = Files.readAllLines(Path.of("src/main/java/IceTunes.java"));
        test.forbiddenWords(lines);
        test.shortMethods(lines);
        test.library(lines);
        test.callsAreNotDeep(lines);
        test.face();
        test.classes();
        test.due.end();
    }

    private void forbiddenWords(List<String> lines) {
        Pattern bad = Pattern.compile("\\b(throw|throws|try|catch|synchronized|assert|import|package|native|volatile|var|hashCode|toString|Object|Exception)\\b"
            + "|->|::|Exact\\b|\" *\\+|\\+ *\"|static *\\{|[^\\x00-\\x7f]");
        for (int i = 0; i < lines.size(); i++) {
            String code = codeOf(lines.get(i));
            Matcher found = bad.matcher(code);
            due.is("line " + (i + 1) + " has a word that LANGUAGE.md forbids: " + code, found.find(), false);
        }
    }

    private void shortMethods(List<String> lines) {
        Pattern head = Pattern.compile("^( {4}| {8})(public|private)\\b.*\\(.*\\) \\{$");
        for (int i = 0; i < lines.size(); i++) {
            Matcher found = head.matcher(lines.get(i));
            if (found.find()) {
                int end = i;
                while (!lines.get(end).equals(found.group(1) + "}")) {
                    end++;
                }
                due.is("the method of line " + (i + 1) + " is short", end - i < 60, true);
            }
        }
    }

    private static String codeOf(String line) {
        return line.replaceAll("//.*|^\\s*/?\\*.*", "");
    }

    // Rule 4, as far as the class uses it.
    private void library(List<String> lines) {
        Set<String> allowed = Set.of("Math.max", "Math.min", "Integer.bitCount", "System.arraycopy");
        Pattern use = Pattern.compile("\\b(Math|Integer|Long|System|Arrays|String|StringBuilder|List|ArrayList|Character|Byte|Boolean)\\.\\w+|\\.(clone|equals|getClass)\\b");
        for (String line : lines) {
            Matcher found = use.matcher(codeOf(line));
            while (found.find()) {
                due.is(found.group() + " is of the library that is allowed", allowed.contains(found.group()), true);
            }
        }
    }

    // Rule 11: a call by a bare name goes to its own class or the outer one, any other to each class that has the name.
    private void callsAreNotDeep(List<String> lines) {
        Map<String, List<String>> bodies = bodies(lines);
        Map<String, Set<String>> calls = new TreeMap<>();
        for (String method : bodies.keySet()) {
            calls.put(method, calledBy(method, bodies));
        }
        due.is("methods were found", bodies.size() > 100, true);
        Map<String, Set<String>> reached = new TreeMap<>();
        for (String method : calls.keySet()) {
            Set<String> all = new TreeSet<>();
            reach(method, calls, all);
            reached.put(method, all);
        }
        Map<String, Integer> depths = new HashMap<>();
        for (String method : calls.keySet()) {
            int deep = depth(method, calls, reached, depths);
            due.is(method + " goes " + deep + " deep, eight at most", deep <= 8, true);
        }
    }

    private static Map<String, List<String>> bodies(List<String> lines) {
        Pattern kind = Pattern.compile("^    private static final class (\\w+)");
        Pattern head = Pattern.compile("^( {4}| {8})(public|private)\\b.*?(\\w+)\\(.*\\) \\{$");
        Map<String, List<String>> bodies = new TreeMap<>();
        String inside = "IceTunes";
        List<String> body = new ArrayList<>();
        for (String line : lines) {
            Matcher newKind = kind.matcher(line);
            Matcher newHead = head.matcher(line);
            if (newKind.find()) {
                inside = newKind.group(1);
            } else if (newHead.find()) {
                body = bodies.computeIfAbsent(inside + "." + newHead.group(3), k -> new ArrayList<>());
            } else {
                body.add(codeOf(line));
            }
        }
        return bodies;
    }

    private static Set<String> calledBy(String method, Map<String, List<String>> bodies) {
        String own = method.substring(0, method.indexOf('.') + 1);
        Set<String> called = new TreeSet<>();
        for (String line : bodies.get(method)) {
            Matcher call = Pattern.compile("(\\.)?\\b(\\w+)\\(").matcher(line);
            while (call.find()) {
                String name = call.group(2);
                if (call.group(1) == null) {
                    called.add(bodies.containsKey(own + name) ? own + name : "IceTunes." + name);
                } else {
                    bodies.keySet().stream().filter(m -> m.endsWith("." + name) && !m.startsWith(own) && !m.startsWith("IceTunes.")).forEach(called::add);
                }
            }
        }
        called.retainAll(bodies.keySet());
        return called;
    }

    private static void reach(String from, Map<String, Set<String>> calls, Set<String> all) {
        for (String next : calls.get(from)) {
            if (all.add(next)) {
                reach(next, calls, all);
            }
        }
    }

    /** Methods that call one another (recursion) count as one. */
    private static int depth(String from, Map<String, Set<String>> calls, Map<String, Set<String>> reached, Map<String, Integer> depths) {
        if (depths.containsKey(from)) {
            return depths.get(from);
        }
        Set<String> group = new TreeSet<>(Set.of(from));
        for (String other : reached.get(from)) {
            if (reached.get(other).contains(from)) {
                group.add(other);
            }
        }
        int deepest = 0;
        for (String member : group) {
            for (String next : calls.get(member)) {
                if (!group.contains(next)) {
                    deepest = Math.max(deepest, depth(next, calls, reached, depths));
                }
            }
        }
        depths.put(from, deepest + 1);
        return deepest + 1;
    }

    private void face() {
        Set<String> seen = new TreeSet<>();
        Set<String> names = new TreeSet<>();
        for (Method m : IceTunes.class.getDeclaredMethods()) {
            if (Modifier.isPublic(m.getModifiers())) {
                seen.add(m.getName() + "/" + m.getParameterCount());
                names.add(m.getName());
                due.is(m.getName() + " answers", m.getReturnType() == (TRUTHS.contains(m.getName()) ? boolean.class : int.class), true);
            }
        }
        due.is("the face " + seen, seen.equals(FACE), true);
        due.is("public and final", Modifier.isPublic(IceTunes.class.getModifiers()) && Modifier.isFinal(IceTunes.class.getModifiers()), true);
        due.is("one constructor", IceTunes.class.getDeclaredConstructors().length, 1);
        due.is("one public field", IceTunes.class.getFields().length, 1);
        due.is("NONE", IceTunes.NONE, -1);
        privateOnes(IceTunes.class, names);
        for (Class<?> c : IceTunes.class.getDeclaredClasses()) {
            privateOnes(c, names);
        }
    }

    private void privateOnes(Class<?> c, Set<String> names) {
        for (Method m : c.getDeclaredMethods()) {
            due.is(m + " has 7 parameters at most", m.getParameterCount() <= 7, true);
            if (!Modifier.isPublic(m.getModifiers())) {
                due.is(m + " is private", Modifier.isPrivate(m.getModifiers()), true);
                due.is(m + " has a name of its own", names.contains(m.getName()), false);
            } else {
                due.is(m + " is of the face", c == IceTunes.class, true);
            }
        }
    }

    private void classes() {
        Class<?>[] inside = IceTunes.class.getDeclaredClasses();
        due.is("twelve classes at most", inside.length + 1 <= 12, true);
        fields(IceTunes.class);
        for (Class<?> c : inside) {
            due.is(c + " is static", Modifier.isStatic(c.getModifiers()), true);
            fields(c);
        }
    }

    private void fields(Class<?> c) {
        int own = 0;
        for (Field f : c.getDeclaredFields()) {
            if (Modifier.isStatic(f.getModifiers())) {
                due.is(f + " is final", Modifier.isFinal(f.getModifiers()), true);
            } else {
                own++;
            }
            due.is(f + " is private", Modifier.isPrivate(f.getModifiers()) || f.getName().equals("NONE"), true);
        }
        due.is(c + " has twenty fields at most", own <= 20, true);
    }
}
