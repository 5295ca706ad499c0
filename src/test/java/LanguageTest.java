import java.lang.reflect.Constructor;
import java.lang.reflect.Field;
import java.lang.reflect.Method;
import java.lang.reflect.Modifier;
import java.nio.charset.StandardCharsets;
import java.nio.file.Files;
import java.nio.file.Path;
import java.util.ArrayList;
import java.util.Arrays;
import java.util.List;
import java.util.Set;
import java.util.TreeSet;
import java.util.regex.Matcher;
import java.util.regex.Pattern;

/** The face that the document tells, and of LANGUAGE.md what can be seen without running the class. */
public final class LanguageTest {
    private static final String SOURCE = "src/main/java/OnlyEntrances.java";
    private static final String FACE = "int write(int); int wipe(); int fault(); int play(); int about(int);"
        + " int door(int); int stool(int); int part(int,int); int line(int,int); int load(int); int enter(int,int);"
        + " int walk(int,int); int say(int); int shift(int,int); int undo(); int way(int,int); int place(int,int);"
        + " int comes(int,int); int order(boolean); int bars(int); int leftOut(int); int judge(int,long);"
        + " int share(int,boolean); int tread(int,int); int untread(); int doors(); int rests(int,int,int);"
        + " int gives(int,int,boolean); long seed(long); int evenings(int); int keep(int); int again(int)";
    private static final String LIBRARY = "Math.abs Math.max Math.min Integer.bitCount Integer.compare System.arraycopy";
    private static int wrong = 0;

    public static void main(String[] args) throws Exception {
        face();
        for (Class<?> inner : OnlyEntrances.class.getDeclaredClasses()) {
            innerClass(inner);
        }
        atMost(12, OnlyEntrances.class.getDeclaredClasses().length + 1, "classes");
        String text = Files.readString(Path.of(SOURCE), StandardCharsets.ISO_8859_1);
        String code = text.replaceAll("(?s)/\\*.*?\\*/", "").replaceAll("//[^\n]*", "");
        words(code);
        library(code);
        methodLengths(code);
        System.out.println(wrong == 0 ? "the language is kept" : wrong + " rules are not kept");
        if (wrong != 0) {
            System.exit(1);
        }
    }

    private static void holds(boolean kept, String rule) {
        if (!kept) {
            wrong++;
            System.out.println("not kept: " + rule);
        }
    }

    private static void atMost(int limit, int many, String what) {
        holds(many <= limit, what + ": " + many + ", at most " + limit);
    }

    private static void face() throws Exception {
        Class<?> type = OnlyEntrances.class;
        holds(Modifier.isPublic(type.getModifiers()) && Modifier.isFinal(type.getModifiers()), "a public final class");
        Set<String> methods = new TreeSet<>();
        for (Method method : type.getDeclaredMethods()) {
            if (!Modifier.isPrivate(method.getModifiers())) {
                String types = Arrays.toString(method.getParameterTypes()).replaceAll("[\\[\\] ]", "");
                methods.add(method.getReturnType() + " " + method.getName() + "(" + types + ")");
                holds(method.getModifiers() == Modifier.PUBLIC, "public alone: " + method);
            }
        }
        holds(methods.equals(new TreeSet<>(Arrays.asList(FACE.split("; *")))), "the methods of the face: " + methods);
        List<String> fields = new ArrayList<>();
        for (Field field : type.getDeclaredFields()) {
            if (!Modifier.isPrivate(field.getModifiers())) {
                boolean constant = field.getModifiers() == (Modifier.PUBLIC | Modifier.STATIC | Modifier.FINAL);
                fields.add(field.getName() + (constant && field.getType() == int.class ? field.getInt(null) : "?"));
            }
        }
        holds(fields.equals(List.of("UNKNOWN-1", "BAD-2", "LATE-3", "FULL-4", "NONE-9")), "the constants: " + fields);
        Constructor<?>[] constructors = type.getDeclaredConstructors();
        holds(constructors.length == 1 && constructors[0].getParameterCount() == 0
            && Modifier.isPublic(constructors[0].getModifiers()), "one public constructor");
        members(type);
    }

    private static void innerClass(Class<?> inner) {
        holds(Modifier.isStatic(inner.getModifiers()), "static: " + inner);
        holds(!Modifier.isPublic(inner.getModifiers()) && !Modifier.isProtected(inner.getModifiers()), "not public: " + inner);
        holds(inner.getDeclaredClasses().length == 0, "no class inside: " + inner);
        members(inner);
        for (Method method : inner.getDeclaredMethods()) {
            holds(!FACE.contains(" " + method.getName() + "("), "a name of its own: " + method);
        }
    }

    private static void members(Class<?> type) {
        int fields = 0;
        for (Field field : type.getDeclaredFields()) {
            fields += Modifier.isStatic(field.getModifiers()) ? 0 : 1;
            holds(!Modifier.isStatic(field.getModifiers()) || Modifier.isFinal(field.getModifiers()), "final: " + field);
        }
        atMost(20, fields, "fields of " + type);
        for (Method method : type.getDeclaredMethods()) {
            atMost(7, method.getParameterCount(), "parameters of " + method);
            holds(!method.isSynthetic(), "no lambda: " + method);
            boolean hidden = Modifier.isPrivate(method.getModifiers());
            holds(!hidden || !FACE.contains(" " + method.getName() + "("), "no private name of the face: " + method);
        }
    }

    private static void words(String code) {
        for (String word : "throw throws try catch finally synchronized assert package import var record".split(" ")) {
            holds(!Pattern.compile("\\b" + word + "\\b").matcher(code).find(), "no " + word);
        }
        for (String sign : new String[] {"->", "::", "\"", "@"}) {
            holds(!code.contains(sign), "no " + sign);
        }
        holds(code.chars().allMatch(c -> c < 128), "signs 1 to 127");
    }

    private static void library(String code) {
        List<String> listed = Arrays.asList(LIBRARY.split(" "));
        Matcher call = Pattern.compile("\\b(Math|Integer|Long|System|Arrays|String|StringBuilder|List|ArrayList)\\b(\\.\\w+)?")
            .matcher(code);
        while (call.find()) {
            holds(listed.contains(call.group()), "of the library: " + call.group());
        }
    }

    private static void methodLengths(String code) {
        Matcher method = Pattern.compile("(?m)^( +)(?:\\w+ )*(?:int|long|boolean|void) (\\w+)\\([^;{]*\\) \\{$").matcher(code);
        int found = 0;
        while (method.find()) {
            int end = code.indexOf("\n" + method.group(1) + "}", method.start());
            atMost(60, code.substring(method.start(), end).split("\n").length, "lines of " + method.group(2));
            found++;
        }
        holds(found > 100, "the methods are found: " + found);
    }
}
