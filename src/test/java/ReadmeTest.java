import java.io.IOException;
import java.lang.reflect.InvocationTargetException;
import java.lang.reflect.Method;
import java.lang.reflect.Modifier;
import java.nio.file.Files;
import java.nio.file.Path;
import java.util.Arrays;
import java.util.Set;
import java.util.TreeSet;
import java.util.regex.Matcher;
import java.util.regex.Pattern;

/** The calls that README.md shows, one run from top to bottom, each held to the answer behind its slashes. */
public final class ReadmeTest {
    private static final Pattern BLOCK = Pattern.compile("(?ms)^```java\n(.*?)^```$");
    private static final Pattern CALL = Pattern.compile("almanac\\.(\\w+)\\((.*)\\);");
    private static final Pattern PUT = Pattern.compile("put\\(almanac, (\\d+), \"([^\"\\\\]*)\"\\);");
    private static final Pattern ANSWER = Pattern.compile("(-?\\d+|NONE|true|false)(: .+)?");
    private static final String MAKING = "TollAlmanac almanac = new TollAlmanac();";
    private static final Path OWN_TEXT = Path.of("src/test/java/ReadmeTest.java");

    private static Bench bench = null;
    private static TollAlmanac fed = null;
    private static final Set<String> SHOWN = new TreeSet<>();

    public static void main(String[] args) throws IOException, ReflectiveOperationException {
        String helper = helper();
        boolean helperShown = false;
        Matcher block = BLOCK.matcher(Files.readString(Path.of("README.md")));
        while (block.find()) {
            if (block.group(1).equals(helper)) {
                helperShown = true;
            } else {
                for (String line : block.group(1).split("\n")) {
                    shown(line);
                }
            }
        }
        Bench.due(1, helperShown, "README.md shows the helper as it stands in this test");
        for (Method one : TollAlmanac.class.getDeclaredMethods()) {
            if (Modifier.isPublic(one.getModifiers())) {
                Bench.due(1, SHOWN.contains(one.getName()), "README.md shows a call of " + one.getName());
            }
        }
        Bench.close("ReadmeTest");
    }

    private static void shown(String line) throws ReflectiveOperationException {
        if (line.equals(MAKING)) {
            bench = new Bench();
            fed = new TollAlmanac();
            return;
        }
        String[] halves = line.split(" // ", 2);
        Matcher answer = ANSWER.matcher(halves.length == 2 ? halves[1] : "");
        if (bench == null || !answer.matches()) {
            Bench.tell("README.md shows no answer that can be looked at: " + line);
            return;
        }
        Matcher put = PUT.matcher(halves[0]);
        Matcher call = CALL.matcher(halves[0]);
        if (put.matches()) {
            int year = Integer.parseInt(put.group(1));
            Bench.due(number(answer.group(1)), bench.put(year, put.group(2)), line);
            Bench.due(number(answer.group(1)), put(fed, year, put.group(2)), "by the helper: " + line);
        } else if (call.matches()) {
            SHOWN.add(call.group(1));
            Bench.due(number(answer.group(1)), answer(Bench.class, bench, call), line);
            Bench.due(number(answer.group(1)), answer(TollAlmanac.class, fed, call), "by the helper: " + line);
        } else {
            Bench.tell("README.md shows what is no call: " + line);
        }
    }

    private static long number(String answer) {
        switch (answer) {
            case "NONE": return TollAlmanac.NONE;
            case "true": return 1;
            case "false": return 0;
            default: return Long.parseLong(answer);
        }
    }

    private static long answer(Class<?> type, Object target, Matcher call) throws ReflectiveOperationException {
        String[] given = call.group(2).isEmpty() ? new String[0] : call.group(2).split(", ");
        Class<?>[] types = new Class<?>[given.length];
        Arrays.fill(types, int.class);
        Object[] numbers = Arrays.stream(given).map(Integer::decode).toArray();
        try {
            Object answer = type.getDeclaredMethod(call.group(1), types).invoke(target, numbers);
            return answer instanceof Boolean ? ((Boolean) answer ? 1 : 0) : ((Number) answer).longValue();
        } catch (InvocationTargetException thrown) {
            Bench.tell(call.group() + " threw " + thrown.getCause());
            return Long.MIN_VALUE;
        }
    }

    /** The helper below, as README.md must show it: without this class's indent and its private. */
    private static String helper() throws IOException {
        String own = Files.readString(OWN_TEXT).replaceAll("(?m)^ {4}", "");
        int start = own.indexOf("\nprivate static int put(") + "\nprivate ".length();
        return own.substring(start, own.indexOf("\n}\n", start) + 3);
    }

    private static int put(TollAlmanac almanac, int year, String text) {
        almanac.end(0);
        for (int row = 0; row < text.length(); row += 20) {
            int[] n = new int[5];
            for (int i = 0; i < 20 && row + i < text.length(); i++) {
                n[i / 4] |= text.charAt(row + i) << (24 - i % 4 * 8);
            }
            almanac.feed(n[0], n[1], n[2], n[3], n[4]);
        }
        almanac.end(text.length());
        return almanac.sheet(year);
    }
}
