import java.lang.reflect.Method;
import java.nio.file.Files;
import java.nio.file.Path;
import java.util.Map;
import java.util.Set;
import java.util.TreeSet;
import java.util.regex.Matcher;
import java.util.regex.Pattern;

/** Each line of README.md that has a call with its answer behind it is run, on one object, in their order. */
public final class ReadmeTest {
    private static final Due DUE = new Due();
    private static final Pattern LINE = Pattern.compile("^(read|x\\.\\w+)\\((.*)\\);\\s+// (-?\\d+|[A-Z]+)\\b.*$");
    private static final Map<String, Long> NAMES = Map.of("BAD", Due.BAD, "STATE", Due.STATE, "FULL", Due.FULL, "NULL",
            Due.NULL, "PLACE", Due.PLACE, "KIND", Due.KIND, "SIZE", Due.SIZE, "STORE", Due.STORE);
    private static final int LINES_AT_LEAST = 25;

    public static void main(String[] args) throws Exception {
        LandGoods x = new LandGoods();
        int lines = 0;
        String text = Files.readString(Path.of("README.md"));
        for (String line : text.split("\n")) {
            Matcher m = LINE.matcher(line);
            if (m.matches()) {
                lines++;
                long want = NAMES.containsKey(m.group(3)) ? NAMES.get(m.group(3)) : Long.parseLong(m.group(3));
                DUE.is("README.md: " + line, answer(x, m.group(1), m.group(2)), want);
            }
        }
        DUE.is("README.md: lines that were run, " + lines + ", are enough", lines >= LINES_AT_LEAST ? 1 : 0, 1);
        names(text);
        DUE.end("ReadmeTest");
    }

    private static long answer(LandGoods x, String call, String given) throws Exception {
        if (call.equals("read")) {
            Due.feedText(x, given.substring(given.indexOf('"') + 1, given.lastIndexOf('"')));
            return x.world();
        }
        String[] numbers = given.isEmpty() ? new String[0] : given.split(", ");
        for (Method m : LandGoods.class.getMethods()) {
            if (m.getName().equals(call.substring(2)) && m.getParameterCount() == numbers.length) {
                Object[] values = new Object[numbers.length];
                for (int i = 0; i < numbers.length; i++) {
                    values[i] = Integer.parseInt(numbers[i]);
                }
                return ((Number) m.invoke(x, values)).longValue();
            }
        }
        throw new IllegalStateException("README.md has a call that there is not: " + call);
    }

    /** Every call and every test of the project has its place on that page. */
    private static void names(String text) throws Exception {
        Set<String> wanted = new TreeSet<>();
        for (Method m : LandGoods.class.getDeclaredMethods()) {
            if (java.lang.reflect.Modifier.isPublic(m.getModifiers())) {
                wanted.add("`" + m.getName() + "`");
            }
        }
        try (var files = Files.list(Path.of("src/test/java"))) {
            files.map(file -> file.getFileName().toString()).filter(name -> name.endsWith("Test.java"))
                    .forEach(name -> wanted.add("`" + name.replace(".java", "") + "`"));
        }
        for (String name : wanted) {
            DUE.is("README.md tells of " + name, text.contains(name) ? 1 : 0, 1);
        }
    }
}
