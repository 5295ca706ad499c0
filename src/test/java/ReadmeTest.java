import java.io.File;
import java.lang.reflect.Method;
import java.lang.reflect.Modifier;
import java.nio.charset.StandardCharsets;
import java.nio.file.Files;
import java.nio.file.Path;
import java.util.HashSet;
import java.util.Set;
import java.util.regex.Matcher;
import java.util.regex.Pattern;

/** What README.md shows of the class is so, and all of the class and of its tests is in it. */
public final class ReadmeTest {
    private static final Pattern CALL = Pattern.compile("x\\.(\\w+)\\(([^)]*)\\);\\s*// (-?\\d+)(:.*)?");
    private static final Pattern TEXT = Pattern.compile("for \\(char c : \"(\\w+)\"\\.toCharArray\\(\\)\\) \\{");
    private static int wrong = 0;

    public static void main(String[] args) throws Exception {
        String readme = Files.readString(Path.of("README.md"), StandardCharsets.UTF_8);
        Set<String> shown = runWhatIsShown(readme);
        for (Method method : OnlyEntrances.class.getDeclaredMethods()) {
            if (Modifier.isPublic(method.getModifiers())) {
                holds(shown.contains(method.getName()), method.getName() + " is not shown");
            }
        }
        for (String name : new String[] {"UNKNOWN", "BAD", "LATE", "FULL", "NONE"}) {
            int value = OnlyEntrances.class.getField(name).getInt(null);
            holds(readme.contains("`" + name + "` (" + value), name + " is not told");
        }
        File[] tests = Path.of("src/test/java").toFile().listFiles();
        holds(tests != null && tests.length > 0, "the tests are not found");
        for (File test : tests == null ? new File[0] : tests) {
            holds(readme.contains("`src/test/java/" + test.getName() + "`"), test.getName() + " is not named");
        }
        System.out.println(wrong == 0 ? "the readme is true" : wrong + " faults in the readme");
        if (wrong != 0) {
            System.exit(1);
        }
    }

    private static void holds(boolean kept, String what) {
        if (!kept) {
            wrong++;
            System.out.println("README.md: " + what);
        }
    }

    /** All its Java is one run on one object: the names of the methods that are called. */
    private static Set<String> runWhatIsShown(String readme) throws Exception {
        OnlyEntrances x = new OnlyEntrances();
        Set<String> shown = new HashSet<>();
        boolean java = false;
        for (String row : readme.split("\n")) {
            if (row.startsWith("```")) {
                java = row.equals("```java");
                continue;
            }
            Matcher text = TEXT.matcher(row);
            Matcher call = CALL.matcher(row);
            if (java && text.matches()) {
                Hand.write(x, text.group(1));
            } else if (java && call.matches()) {
                shown.add(call.group(1));
                long got = answer(x, call.group(1), call.group(2));
                holds(got == Long.parseLong(call.group(3)), row + " answered " + got);
            } else {
                holds(!java || row.isBlank() || row.equals("OnlyEntrances x = new OnlyEntrances();")
                    || row.equals("    x.write(c);") || row.equals("}"), "not understood: " + row);
            }
        }
        return shown;
    }

    private static long answer(OnlyEntrances x, String name, String arguments) throws Exception {
        for (Method method : OnlyEntrances.class.getDeclaredMethods()) {
            if (method.getName().equals(name)) {
                String[] words = arguments.isEmpty() ? new String[0] : arguments.split(", ");
                Class<?>[] types = method.getParameterTypes();
                Object[] values = new Object[words.length];
                for (int i = 0; i < words.length; i++) {
                    values[i] = valueOf(words[i], types[i]);
                }
                return ((Number) method.invoke(x, values)).longValue();
            }
        }
        holds(false, "there is no method " + name);
        return Long.MIN_VALUE;
    }

    private static Object valueOf(String word, Class<?> type) {
        if (type == boolean.class) {
            return Boolean.valueOf(word);
        }
        return type == long.class ? (Object) Long.valueOf(word) : (Object) Integer.valueOf(word);
    }
}
