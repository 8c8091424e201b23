import java.lang.reflect.Method;
import java.nio.file.Files;
import java.nio.file.Path;
import java.util.regex.Matcher;
import java.util.regex.Pattern;

/** README.md: its examples answer what it says, it names every call of the face and every test of the project. */
public final class ReadmeTest {
    private static final Due DUE = new Due();
    private static final Pattern CALL = Pattern.compile("town\\.(\\w+)\\(([^)]*)\\);\\s+// (true|false|-?\\d+)\\b.*");
    private static final Pattern TOLD = Pattern.compile("tell\\(town, \"([^\"]*)\"\\);.*");

    public static void main(String[] args) throws Exception {
        String readme = Files.readString(Path.of("README.md"));
        runExamples(readme);
        for (Method m : HandsAlike.class.getDeclaredMethods()) {
            if (java.lang.reflect.Modifier.isPublic(m.getModifiers())) {
                DUE.is("names " + m.getName(), readme.contains("`" + m.getName() + "`") || readme.contains("town." + m.getName() + "("), true);
            }
        }
        try (var files = Files.list(Path.of("src/test/java"))) {
            for (String name : files.map(f -> f.getFileName().toString()).filter(f -> f.endsWith("Test.java")).toList()) {
                DUE.is("tells of " + name, readme.contains("`" + name.replace(".java", "") + "`"), true);
            }
        }
        DUE.end("ReadmeTest");
    }

    /** Each block of examples goes on with the town of the one before, or makes a new one. */
    private static void runExamples(String readme) throws Exception {
        HandsAlike town = new HandsAlike();
        int examples = 0;
        for (String line : readme.split("\n")) {
            Matcher call = CALL.matcher(line);
            Matcher told = TOLD.matcher(line);
            if (line.startsWith("HandsAlike town = new HandsAlike();")) {
                town = new HandsAlike();
            } else if (told.matches()) {
                Due.feed(town, Due.bytes(told.group(1)));
            } else if (call.matches()) {
                examples++;
                String answer = String.valueOf(answer(town, call.group(1), call.group(2)));
                DUE.is(line + " | answers " + answer, answer.equals(call.group(3)), true);
            } else {
                DUE.is("has an answer that can be looked at: " + line, line.startsWith("town."), false);
            }
        }
        DUE.is("examples were found", examples >= 20, true);
    }

    private static Object answer(HandsAlike town, String name, String arguments) throws Exception {
        String[] texts = arguments.isEmpty() ? new String[0] : arguments.split(", ");
        for (Method m : HandsAlike.class.getDeclaredMethods()) {
            if (m.getName().equals(name) && m.getParameterCount() == texts.length) {
                Object[] values = new Object[texts.length];
                for (int i = 0; i < values.length; i++) {
                    boolean flag = m.getParameterTypes()[i] == boolean.class;
                    values[i] = flag ? (Object) Boolean.valueOf(texts[i]) : (Object) Integer.decode(texts[i]);
                }
                return m.invoke(town, values);
            }
        }
        return "no such call";
    }
}
