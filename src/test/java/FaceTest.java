import java.lang.reflect.Constructor;
import java.lang.reflect.Field;
import java.lang.reflect.Method;
import java.lang.reflect.Modifier;
import java.nio.charset.StandardCharsets;
import java.nio.file.Files;
import java.nio.file.Path;
import java.util.Set;
import java.util.TreeSet;
import java.util.regex.Matcher;
import java.util.regex.Pattern;

/** The class's face is the document's and no more; the rules of LANGUAGE.md that can be seen from words are kept. */
public final class FaceTest {
    private static final Due d = new Due("FaceTest");

    public static void main(String[] args) throws Exception {
        face(read("../shared/DOC.md"));
        inside();
        words(read("src/main/java/QuarterTurn.java"));
        d.end();
    }

    private static String read(String file) throws Exception {
        return new String(Files.readAllBytes(Path.of(file)), StandardCharsets.ISO_8859_1);
    }

    private static void same(String what, Set<String> got, Set<String> want) {
        d.due(what + " " + got + ", due are " + want, got.equals(want) ? 1 : 0, 1);
    }

    static void face(String doc) {
        Set<String> want = new TreeSet<>();
        Matcher m = Pattern.compile("\n    public int (\\w+)\\(([^)]*)\\);").matcher(doc);
        while (m.find()) want.add(m.group(1) + " " + (m.group(2).isEmpty() ? 0 : m.group(2).split(",").length));
        d.due("the document's methods", want.size(), 44);
        Set<String> got = new TreeSet<>();
        for (Method method : QuarterTurn.class.getDeclaredMethods()) {
            if (Modifier.isPrivate(method.getModifiers())) continue;
            got.add(method.getName() + " " + method.getParameterCount());
            for (Class<?> type : method.getParameterTypes()) d.due("takes ints", type == int.class ? 1 : 0, 1);
            d.due("gives an int", method.getReturnType() == int.class ? 1 : 0, 1);
            d.due("is of an object", Modifier.isStatic(method.getModifiers()) ? 1 : 0, 0);
        }
        same("methods", got, want);
        for (Constructor<?> made : QuarterTurn.class.getDeclaredConstructors()) {
            d.due("the constructor", Modifier.isPublic(made.getModifiers()) ? made.getParameterCount() : -1, 0);
        }
        Set<String> constants = new TreeSet<>();
        for (Field field : QuarterTurn.class.getDeclaredFields()) {
            if (!Modifier.isPrivate(field.getModifiers())) constants.add(field.getName());
        }
        same("constants", constants,
            Set.of("BAD", "NO", "FULL", "NONE", "NOTHING", "KIND", "INDEX", "SIZE"));
    }

    static void inside() {
        Set<String> face = new TreeSet<>();
        for (Method method : QuarterTurn.class.getMethods()) face.add(method.getName());
        d.due("the class is public and final", QuarterTurn.class.getModifiers(), Modifier.PUBLIC | Modifier.FINAL);
        within(QuarterTurn.class, face);
        d.due("some twelve classes", QuarterTurn.class.getDeclaredClasses().length <= 12 ? 1 : 0, 1);
        for (Class<?> c : QuarterTurn.class.getDeclaredClasses()) {
            d.due(c + " is static", Modifier.isStatic(c.getModifiers()) ? 1 : 0, 1);
            d.due(c + " is not of the face", c.getModifiers() & (Modifier.PUBLIC | Modifier.PROTECTED), 0);
            within(c, face);
        }
    }

    private static void within(Class<?> c, Set<String> face) {
        int fields = 0;
        for (Field field : c.getDeclaredFields()) {
            boolean shared = Modifier.isStatic(field.getModifiers());
            if (shared) d.due(c + " " + field.getName() + " is final", Modifier.isFinal(field.getModifiers()) ? 1 : 0, 1);
            else fields++;
        }
        d.due(c + " has some twenty fields", fields <= 21 ? 1 : 0, 1);
        for (Method method : c.getDeclaredMethods()) {
            boolean hidden = Modifier.isPrivate(method.getModifiers());
            d.due(c + " " + method.getName() + " bears a name of the face", hidden && face.contains(method.getName()) ? 1 : 0, 0);
            d.due("seven parameters at most", method.getParameterCount() <= 7 ? 1 : 0, 1);
        }
    }

    /** What LANGUAGE.md leaves out can be seen from words, texts and comments left out. */
    static void words(String source) {
        String code = source.replaceAll("(?s)/\\*.*?\\*/", "").replaceAll("//[^\n]*", "");
        for (char c : code.toCharArray()) if (c > 127) d.due("a sign above 127", c, 0);
        String bare = code.replaceAll("'(\\\\.|[^'\\\\])'", "' '").replaceAll("\"(\\\\.|[^\"\\\\])*\"", "\"\"");
        for (String word : new String[] {"throw", "throws", "try", "catch", "finally", "synchronized", "assert", "package",
            "hashCode", "Exact", "System\\.(?!arraycopy)\\w+", "Thread", "Random"}) {
            d.due("the word " + word, Pattern.compile("\\b" + word + "\\b").matcher(bare).find() ? 1 : 0, 0);
        }
        d.due("no lambda", bare.replaceAll("(case [^:;{}]*|default *)->", "").contains("->") ? 1 : 0, 0);
        d.due("no method reference", bare.contains("::") ? 1 : 0, 0);
        d.due("no texts joined by +", Pattern.compile("\"\\s*\\+|\\+\\s*\"").matcher(bare).find() ? 1 : 0, 0);
        Matcher m = Pattern.compile("\\bimport ([\\w.*]+)").matcher(bare);
        while (m.find()) {
            boolean fits = m.group(1).matches("java\\.util\\.(ArrayList|List|Arrays|Iterator)|java\\.lang\\.\\w+");
            d.due("import " + m.group(1), fits ? 1 : 0, 1);
        }
    }
}
