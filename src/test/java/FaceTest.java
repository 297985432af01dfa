import java.lang.reflect.Constructor;
import java.lang.reflect.Field;
import java.lang.reflect.Method;
import java.lang.reflect.Modifier;
import java.nio.file.Files;
import java.nio.file.Path;
import java.util.ArrayList;
import java.util.List;
import java.util.Set;
import java.util.TreeSet;
import java.util.regex.Matcher;
import java.util.regex.Pattern;

/** The public face is the document's and no more, and the source keeps to what can be seen of LANGUAGE.md by its text. */
public final class FaceTest {
    private static final Due DUE = new Due();
    private static final Path SOURCE = Path.of("src/main/java/LandGoods.java");
    private static final String[] FACE = {
        "long row(int, int, int)", "long set(int, int, int)", "long copy(int, int, int, int, int)", "long drop(int)",
        "long feed(long, int)", "long world()", "int fault()", "long told(int, int, int)", "long wage(int, int)",
        "long price(int, int)", "long gain(int, int, int)", "long judge(int, int)", "long chain(int, int, int)",
        "long more(int, int)", "long stays(int, int, int)", "long learn(int, int, int)", "long on(int)",
        "long edge(int, int)", "long move(int)", "long kind(int)", "long as(int, int)", "long ask(int, int)",
        "int trace(int)", "long count(int)", "int status()"};

    public static void main(String[] args) throws Exception {
        members();
        names();
        source();
        DUE.end("FaceTest");
    }

    private static void holds(String what, boolean so) {
        DUE.is(what, so ? 1 : 0, 1);
    }

    private static void members() throws Exception {
        holds("the class is public and final",
                Modifier.isPublic(LandGoods.class.getModifiers()) && Modifier.isFinal(LandGoods.class.getModifiers()));
        Set<String> methods = new TreeSet<>();
        for (Method m : LandGoods.class.getDeclaredMethods()) {
            if (Modifier.isPrivate(m.getModifiers()) || m.isSynthetic()) {
                continue;
            }
            holds(m + " is public and no static one",
                    Modifier.isPublic(m.getModifiers()) && !Modifier.isStatic(m.getModifiers()));
            List<String> types = new ArrayList<>();
            for (Class<?> type : m.getParameterTypes()) {
                types.add(type.getName());
            }
            methods.add(m.getReturnType().getName() + " " + m.getName() + "(" + String.join(", ", types) + ")");
        }
        holds("the methods are the document's: " + methods, methods.equals(new TreeSet<>(List.of(FACE))));
        Set<String> fields = new TreeSet<>();
        for (Field f : LandGoods.class.getDeclaredFields()) {
            if (!Modifier.isPrivate(f.getModifiers())) {
                fields.add(f.toString());
            }
        }
        holds("the constants are the document's: " + fields, fields.equals(Set.of(
                "public static final int LandGoods.NONE", "public static final long LandGoods.NOT")));
        Constructor<?>[] made = LandGoods.class.getDeclaredConstructors();
        holds("there is one constructor, public, of no arguments",
                made.length == 1 && Modifier.isPublic(made[0].getModifiers()) && made[0].getParameterCount() == 0);
        DUE.is("NONE", LandGoods.NONE, -1000000);
        DUE.is("NOT", LandGoods.NOT, -9000000000000000000L);
    }

    /** No private method bears the name of a public one, in the classes inside either. */
    private static void names() {
        Set<String> open = new TreeSet<>();
        for (String method : FACE) {
            open.add(method.substring(method.indexOf(' ') + 1, method.indexOf('(')));
        }
        List<Class<?>> all = new ArrayList<>(List.of(LandGoods.class.getDeclaredClasses()));
        all.add(LandGoods.class);
        holds("at most twelve classes", all.size() <= 12);
        for (Class<?> c : all) {
            for (Method m : c.getDeclaredMethods()) {
                holds(m + " has a name of its own", Modifier.isPublic(m.getModifiers()) || !open.contains(m.getName()));
                holds(m + " takes at most seven", m.getParameterCount() <= 7);
            }
            int held = 0;
            for (Field f : c.getDeclaredFields()) {
                boolean fixed = Modifier.isStatic(f.getModifiers());
                holds(f + " is final, if static", !fixed || Modifier.isFinal(f.getModifiers()));
                held += fixed ? 0 : 1;
            }
            holds(c + " has at most twenty fields", held <= 20);
            holds(c + " is static", c == LandGoods.class || Modifier.isStatic(c.getModifiers()));
        }
    }

    private static void source() throws Exception {
        String text = Files.readString(SOURCE);
        for (int i = 0; i < text.length(); i++) {
            if (text.charAt(i) > 127) {
                holds("only plain signs, at " + i, false);
            }
        }
        String code = text.replaceAll("(?s)/\\*.*?\\*/", " ").replaceAll("//[^\n]*", " ");
        code = code.replaceAll("\"[^\"\n]*\"", "\"\"");
        for (String word : new String[] {"throw", "throws", "try", "catch", "finally", "synchronized", "assert", "import",
            "package", "native", "volatile", "transient", "protected", "System\\.(?!arraycopy)", "Thread", "random",
            "->", "::", "Exact", "hashCode", "toString", "getClass", "while \\(true\\)", "for \\(;;"}) {
            Matcher m = Pattern.compile(word.matches("[a-z]+") ? "\\b" + word + "\\b" : word).matcher(code);
            holds("no '" + word + "' in the source", !m.find());
        }
        lengths(text);
    }

    /** Methods stay within sixty lines: a method begins with an indented line that ends in ') {' and ends with '}'. */
    private static void lengths(String text) {
        String[] lines = text.split("\n");
        for (int from = 0; from < lines.length; from++) {
            Matcher m = Pattern.compile("^( {4}| {8})[a-z].*\\) \\{$").matcher(lines[from]);
            if (!m.find() || lines[from].trim().matches("(if|for|while|switch)\\b.*")) {
                continue;
            }
            int to = from;
            while (to < lines.length && !lines[to].equals(m.group(1) + "}")) {
                to++;
            }
            holds("at most sixty lines: " + lines[from].trim(), to - from <= 60);
        }
    }
}
