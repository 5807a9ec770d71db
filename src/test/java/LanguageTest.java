import java.io.IOException;
import java.lang.reflect.Constructor;
import java.lang.reflect.Field;
import java.lang.reflect.Method;
import java.lang.reflect.Modifier;
import java.nio.file.Files;
import java.nio.file.Path;
import java.util.ArrayList;
import java.util.Arrays;
import java.util.List;
import java.util.Set;
import java.util.TreeSet;
import java.util.regex.Matcher;
import java.util.regex.Pattern;

/** The face of the class, and those rules of LANGUAGE.md that its text and its members can be held against. */
public final class LanguageTest {
    private static final List<String> FACE = List.of(
        "boolean forget(int)", "boolean leans(int,int)", "int bill(int)", "int count(int)", "int end(int)",
        "int fault(int)", "int feed(int,int,int,int,int)", "int issue()", "int lock(int,int,int,int)", "int need(int)",
        "int sheet(int)", "int started(int)", "int state(int,int)", "int voyage(int,int)", "long constant(int,int)",
        "long entry(int,int,int)", "long line(int,int)");
    private static final Set<Class<?>> CONSTANTS = Set.of(int.class, long.class, boolean.class, char.class, String.class,
        int[].class, long[].class, char[].class, byte[].class);

    public static void main(String[] args) throws IOException {
        face();
        for (Class<?> one : TollAlmanac.class.getDeclaredClasses()) {
            inner(one);
        }
        Bench.due(1, TollAlmanac.class.getDeclaredClasses().length < 12, "at most some twelve classes");
        String source = Files.readString(Path.of("src/main/java/TollAlmanac.java"));
        Path document = Path.of("../shared/DOC.md");
        if (Files.exists(document)) {
            faceOfTheDocument(Files.readString(document), source);
        }
        text(source);
        Bench.close("LanguageTest");
    }

    private static void face() {
        List<String> seen = new ArrayList<>();
        for (Method one : TollAlmanac.class.getDeclaredMethods()) {
            if (Modifier.isPublic(one.getModifiers())) {
                seen.add(signature(one));
            } else {
                privateMember(one.getName(), one.getModifiers());
                ownName(one);
            }
        }
        seen.sort(null);
        Bench.due(1, seen.equals(FACE), "the face " + seen);
        for (Field one : TollAlmanac.class.getDeclaredFields()) {
            if (one.getName().equals("NONE")) {
                Bench.due(Modifier.PUBLIC | Modifier.STATIC | Modifier.FINAL, one.getModifiers(), "NONE");
            } else {
                privateMember(one.getName(), one.getModifiers());
            }
            staticField(one);
        }
        Constructor<?>[] all = TollAlmanac.class.getDeclaredConstructors();
        Bench.due(1, all.length == 1 && all[0].getParameterCount() == 0 && Modifier.isPublic(all[0].getModifiers()), "constructor");
        Bench.due(-1, TollAlmanac.NONE, "NONE");
        Bench.due(1, Modifier.isFinal(TollAlmanac.class.getModifiers()), "final");
    }

    /** Each line of the document's face stands in the class as it stands there, names of parameters too, and no other one. */
    private static void faceOfTheDocument(String document, String source) {
        Matcher face = Pattern.compile("(?s)```java\n(.*?)```").matcher(document);
        int lines = 0;
        for (String line : face.find() ? face.group(1).split("\n") : new String[0]) {
            if (line.stripLeading().startsWith("public ")) {
                lines++;
                String own = line.endsWith(");") ? line.replace(");", ") {") : line;
                Bench.due(1, source.contains("\n" + own + "\n"), "the line of the face " + line);
            }
        }
        Bench.due(20, lines, "lines of the face");
        Bench.due(lines, Pattern.compile("\\bpublic\\b").matcher(source).results().count(), "public members");
    }

    private static String signature(Method one) {
        StringBuilder text = new StringBuilder(one.getReturnType() + " " + one.getName() + "(");
        Class<?>[] types = one.getParameterTypes();
        for (int i = 0; i < types.length; i++) {
            text.append(i > 0 ? "," : "").append(types[i]);
        }
        return text + ")";
    }

    private static void inner(Class<?> one) {
        Bench.due(1, Modifier.isStatic(one.getModifiers()) && Modifier.isPrivate(one.getModifiers()), one + " is private and static");
        int fields = 0;
        for (Field field : one.getDeclaredFields()) {
            staticField(field);
            fields += Modifier.isStatic(field.getModifiers()) ? 0 : 1;
        }
        Bench.due(1, fields <= 20, one + " has some twenty fields");
        for (Method method : one.getDeclaredMethods()) {
            ownName(method);
            Bench.due(1, method.getParameterCount() <= 7, method + " has at most seven parameters");
        }
    }

    private static void privateMember(String name, int modifiers) {
        Bench.due(1, Modifier.isPrivate(modifiers), name + " is private");
    }

    private static void ownName(Method one) {
        String name = one.getName();
        Bench.due(0, FACE.stream().anyMatch(f -> f.contains(" " + name + "(")), "a name of the face: " + one);
    }

    private static void staticField(Field one) {
        if (Modifier.isStatic(one.getModifiers())) {
            Bench.due(1, Modifier.isFinal(one.getModifiers()) && CONSTANTS.contains(one.getType()), "constant " + one);
        }
    }

    private static void text(String source) {
        String code = source.replaceAll("(?s)/\\*.*?\\*/", "").replaceAll("//[^\n]*", "")
            .replaceAll("\"(\\\\.|[^\"\\\\])*\"", "\"\"").replaceAll("'(\\\\.|[^'\\\\])'", "' '");
        String[] refused = {"throw", "throws", "try", "catch", "finally", "assert", "synchronized", "package", "double", "float",
            "Object", "Exception", "System", "Random", "Thread", "instanceof", "var", "yield", "goto", "native", "volatile"};
        for (String word : refused) {
            Bench.due(0, Pattern.compile("\\b" + word + "\\b").matcher(code).find(), "the word " + word);
        }
        for (String sign : new String[] {"->", "::", "@", "...", "Exact("}) {
            Bench.due(0, code.contains(sign), "the sign " + sign);
        }
        Matcher imports = Pattern.compile("import ([\\w.]+);").matcher(code);
        Set<String> used = new TreeSet<>();
        while (imports.find()) {
            used.add(imports.group(1));
        }
        Bench.due(1, used.equals(Set.of("java.util.Arrays")), "imports " + used);
        methodsAreShort(code);
    }

    private static void methodsAreShort(String code) {
        int[] starts = Pattern.compile("(?m)^ {4}(?: {4})?(?=[a-zA-Z]).*\\) \\{$").matcher(code).results()
            .mapToInt(r -> r.start()).toArray();
        Bench.due(1, starts.length > 80, "methods are found");
        for (int start : starts) {
            String rest = code.substring(start);
            String indent = rest.substring(0, rest.length() - rest.stripLeading().length());
            String body = rest.substring(0, rest.indexOf("\n" + indent + "}"));
            Bench.due(1, Arrays.asList(body.split("\n")).size() <= 60, "short: " + body.split("\n")[0]);
        }
    }
}
