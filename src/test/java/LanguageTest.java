import java.io.PrintWriter;
import java.io.StringWriter;
import java.lang.reflect.Constructor;
import java.lang.reflect.Field;
import java.lang.reflect.Member;
import java.lang.reflect.Method;
import java.lang.reflect.Modifier;
import java.nio.file.Files;
import java.nio.file.Path;
import java.util.ArrayList;
import java.util.Arrays;
import java.util.List;
import java.util.Map;
import java.util.Optional;
import java.util.Set;
import java.util.TreeMap;
import java.util.TreeSet;
import java.util.regex.Matcher;
import java.util.regex.Pattern;
import java.util.spi.ToolProvider;

/** What of ../shared/LANGUAGE.md and of the document's public face a program can see in the source. */
public final class LanguageTest {
    private static final Due DUE = new Due();
    private static final Path SOURCE = Path.of("src/main/java/HandsAlike.java");
    private static final Path DOCUMENT = Path.of("../shared/DOC.md");

    public static void main(String[] args) throws Exception {
        theFace();
        theClassesInside();
        theSource(Files.readString(SOURCE));
        theRoom();
        theDepth();
        DUE.end("LanguageTest");
    }

    private static void none(String rule, Object what) {
        boolean empty = what == null || what.toString().isEmpty() || what.toString().equals("[]");
        DUE.is(rule + ": " + what, empty, true);
    }

    private static Set<String> documented() throws Exception {
        String document = Files.readString(DOCUMENT);
        String face = document.substring(document.indexOf("```java"), document.indexOf("## Terms"));
        Set<String> found = new TreeSet<>();
        Matcher m = Pattern.compile("public (int|boolean) (\\w+)\\(([^)]*)\\);").matcher(face);
        while (m.find()) {
            found.add(m.group(1) + " " + m.group(2) + "(" + m.group(3).replaceAll(" \\w+(,|$)", "$1").replace(" ", "") + ")");
        }
        return found;
    }

    private static void theFace() throws Exception {
        Class<?> c = HandsAlike.class;
        DUE.is("public and final", c.getModifiers(), Modifier.PUBLIC | Modifier.FINAL);
        Set<String> publics = new TreeSet<>();
        Set<String> names = new TreeSet<>();
        List<Member> hidden = new ArrayList<>();
        for (Method m : c.getDeclaredMethods()) {
            if (Modifier.isPublic(m.getModifiers())) {
                String types = Arrays.toString(m.getParameterTypes()).replaceAll("[\\[\\] ]", "");
                publics.add(m.getReturnType() + " " + m.getName() + "(" + types + ")");
                names.add(m.getName());
            } else {
                hidden.add(m);
            }
        }
        DUE.is("the document has 44 calls", documented().size(), 44);
        DUE.is("the face is the document's", publics.equals(documented()), true);
        for (Member m : hidden) {
            DUE.is("private " + m.getName(), Modifier.isPrivate(m.getModifiers()), true);
            DUE.is("bears no public name: " + m.getName(), names.contains(m.getName()), false);
        }
        for (Class<?> inside : c.getDeclaredClasses()) {
            for (Method m : inside.getDeclaredMethods()) {
                DUE.is("bears no public name: " + m, names.contains(m.getName()), false);
            }
        }
        for (Field f : c.getDeclaredFields()) {
            boolean constant = f.getName().equals("NONE");
            DUE.is("field " + f.getName(), constant ? Modifier.isPublic(f.getModifiers()) : Modifier.isPrivate(f.getModifiers()), true);
        }
        Constructor<?>[] made = c.getDeclaredConstructors();
        DUE.is("one constructor", made.length == 1 && made[0].getParameterCount() == 0, true);
    }

    private static void theClassesInside() {
        List<Class<?>> all = new ArrayList<>(List.of(HandsAlike.class.getDeclaredClasses()));
        for (Class<?> c : all) {
            DUE.is("static " + c, Modifier.isStatic(c.getModifiers()), true);
            DUE.is("no class inside " + c, c.getDeclaredClasses().length, 0);
            DUE.is("not seen " + c, c.getModifiers() & (Modifier.PUBLIC | Modifier.PROTECTED), 0);
        }
        all.add(HandsAlike.class);
        DUE.is("some twelve classes", all.size() <= 12, true);
        for (Class<?> c : all) {
            int fields = 0;
            for (Field f : c.getDeclaredFields()) {
                if (Modifier.isStatic(f.getModifiers())) {
                    DUE.is("static is final: " + f, Modifier.isFinal(f.getModifiers()), true);
                } else {
                    fields++;
                }
            }
            DUE.is("some twenty fields: " + c, fields <= 20, true);
            for (Method m : c.getDeclaredMethods()) {
                DUE.is("at most seven parameters: " + m, m.getParameterCount() <= 7, true);
            }
        }
    }

    private static void theSource(String whole) {
        String source = whole.replaceAll("(?s)/\\*.*?\\*/", "").replaceAll("//[^\\n]*", "");
        source = source.replaceAll("\"[^\"\\n]*\"", "\"\"").replaceAll("'.'", "'0'");
        List<String> bad = new ArrayList<>();
        Matcher words = Pattern.compile("\\b(throw|throws|try|catch|synchronized|assert|import|package|System|Object|"
            + "getClass|hashCode|toString|Exact|Thread|Random|double|float)\\b|->|::|@Override|Exact\\(").matcher(source);
        while (words.find()) {
            bad.add(words.group());
        }
        none("words that are not for it", bad);
        List<String> calls = new ArrayList<>();
        Matcher library = Pattern.compile("\\bMath\\.(\\w+)").matcher(source);
        while (library.find()) {
            if (!Set.of("min", "max", "abs", "floorDiv").contains(library.group(1))) {
                calls.add(library.group());
            }
        }
        none("functions of the library", calls);
        // what is made is made with the object: no call takes of the room
        List<String> makes = new ArrayList<>();
        for (String line : source.split("\n")) {
            if (line.contains("new ") && !line.matches("\\s+private (static )?(final )?[\\w\\[\\]]+ \\w+ = new .*;")) {
                makes.add(line.trim());
            }
        }
        none("made behind the constructor", makes);
        none("methods of more than sixty lines", longMethods(whole.split("\n")));
    }

    private static List<String> longMethods(String[] lines) {
        List<String> found = new ArrayList<>();
        int indent = 4;
        int from = -1;
        int methods = 0;
        for (int i = 0; i < lines.length; i++) {
            if (from < 0 && lines[i].matches(" {4}\\S.*class .*\\{")) {
                indent = 8;
            } else if (from < 0 && lines[i].equals("    }")) {
                indent = 4;
            } else if (from < 0 && lines[i].matches(" {" + indent + "}[^ /*].*\\) \\{")) {
                from = i;
                methods++;
            } else if (from >= 0 && lines[i].matches(" {" + indent + "}\\}")) {
                if (i - from + 1 > 60) {
                    found.add(lines[from].trim());
                }
                from = -1;
            }
        }
        DUE.is("the methods were found", methods > 120, true);
        return found;
    }

    private static void theRoom() throws Exception {
        long[] room = new long[2];
        weigh(new HandsAlike(), room, new ArrayList<>());
        System.out.println("one object takes " + room[0] + " objects and arrays, " + room[1] + " fields and elements");
        // an object for each of 512 calls would still fit
        DUE.is("objects", room[0] <= 600000 / 512, true);
        DUE.is("elements", room[1] <= 7300000 / 512, true);
    }

    private static void weigh(Object o, long[] room, List<Object> seen) throws Exception {
        for (Object s : seen) {
            if (s == o) {
                return;
            }
        }
        seen.add(o);
        room[0]++;
        if (o.getClass().isArray()) {
            room[1] += java.lang.reflect.Array.getLength(o);
            return;
        }
        for (Field f : o.getClass().getDeclaredFields()) {
            if (!Modifier.isStatic(f.getModifiers())) {
                room[1]++;
                f.setAccessible(true);
                if (!f.getType().isPrimitive() && f.get(o) != null) {
                    weigh(f.get(o), room, seen);
                }
            }
        }
    }

    /** Rule 11: the longest way from call to call on which no method comes twice, by what was compiled. */
    private static void theDepth() {
        Optional<ToolProvider> javap = ToolProvider.findFirst("javap");
        if (javap.isEmpty()) {
            System.out.println("no javap here: how deep calls go was not looked at");
            return;
        }
        List<String> arguments = new ArrayList<>(List.of("-c", "-p", "-cp", System.getProperty("java.class.path"), "HandsAlike"));
        for (Class<?> inside : HandsAlike.class.getDeclaredClasses()) {
            arguments.add(inside.getName());
        }
        StringWriter out = new StringWriter();
        PrintWriter to = new PrintWriter(out);
        DUE.is("javap", javap.get().run(to, to, arguments.toArray(new String[0])), 0);
        Map<String, Set<String>> calls = callsIn(out.toString());
        DUE.is("the calls were found", calls.size() > 150, true);
        int deepest = 0;
        for (String from : calls.keySet()) {
            deepest = Math.max(deepest, depthFrom(from, calls, new TreeSet<>()));
        }
        System.out.println("calls go " + deepest + " deep");
        DUE.is("eight deep at most", deepest <= 8, true);
    }

    private static Map<String, Set<String>> callsIn(String listing) {
        Map<String, Set<String>> calls = new TreeMap<>();
        Pattern type = Pattern.compile("^.*\\bclass (HandsAlike[$\\w]*) .*$");
        Pattern method = Pattern.compile("^  [^ ].*?([$\\w]+)\\(.*\\);$");
        Pattern call = Pattern.compile("// Method (?:(HandsAlike[$\\w]*)\\.)?(\\w+|\"<init>\"):.*$");
        String in = "";
        String from = "";
        for (String line : listing.split("\\R")) {
            Matcher m = type.matcher(line);
            if (m.matches()) {
                in = m.group(1);
                continue;
            }
            m = method.matcher(line);
            if (m.matches()) {
                from = in + "." + (m.group(1).equals(in) ? "\"<init>\"" : m.group(1));
                calls.put(from, new TreeSet<>());
                continue;
            }
            m = call.matcher(line);
            if (m.find() && calls.containsKey(from)) {
                calls.get(from).add((m.group(1) == null ? in : m.group(1)) + "." + m.group(2));
            }
        }
        return calls;
    }

    /** What is not in the list is the library's. */
    private static int depthFrom(String from, Map<String, Set<String>> calls, Set<String> open) {
        if (!calls.containsKey(from) || !open.add(from)) {
            return 0;
        }
        int deepest = 0;
        for (String to : calls.get(from)) {
            deepest = Math.max(deepest, depthFrom(to, calls, open));
        }
        open.remove(from);
        return deepest + 1;
    }
}
