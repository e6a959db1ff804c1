import java.lang.reflect.Constructor;
import java.lang.reflect.Field;
import java.lang.reflect.Method;
import java.lang.reflect.Modifier;
import java.nio.charset.StandardCharsets;
import java.nio.file.Files;
import java.nio.file.Path;
import java.util.Set;
import java.util.TreeSet;
import java.util.regex.Matcher;
import java.util.regex.Pattern;

/** The class's face is the document's and no more; the rules of LANGUAGE.md that can be seen from words are kept. */
public final class FaceTest {
    private static final Due d = new Due("FaceTest");

    public static void main(String[] args) throws Exception {
        face(read("../shared/DOC.md"));
        inside();
        words(read("src/main/java/QuarterTurn.java"));
        d.end();
    }

    private static String read(String file) throws Exception {
        return new String(Files.readAllBytes(Path.of(file)), StandardCharsets.ISO_8859_1);
    }

    private static void same(String what, Set<String> got, Set<String> want) {
        d.due(what + " " + got + ", due are " + want, got.equals(want) ? 1 : 0, 1);
    }

    static void face(String doc) {
        Set<String> want = new TreeSet<>();
        Matcher m = Pattern.compile("\n    public int (\\w+)\\(([^)]*)\\);").matcher(doc);
        while (m.find()) want.add(m.group(1) + " " + (m.group(2).isEmpty() ? 0 : m.group(2).split(",").length));
        d.due("the document's methods", want.size(), 44);
        Set<String> got = new TreeSet<>();
        for (Method method : QuarterTurn.class.getDeclaredMethods()) {
            if (Modifier.isPrivate(method.getModifiers())) continue;
            got.add(method.getName() + " " + method.getParameterCount());
            for (Class<?> type : method.getParameterTypes()) d.due("takes ints", type == int.class ? 1 : 0, 1);
            d.due("gives an int", method.getReturnType() == int.class ? 1 : 0, 1);
            d.due("is of an object", Modifier.isStatic(method.getModifiers()) ? 1 : 0, 0);
        }
        same("methods", got, want);
        for (Constructor<?> made : QuarterTurn.class.getDeclaredConstructors()) {
            d.due("the constructor", Modifier.isPublic(made.getModifiers()) ? made.getParameterCount() : -1, 0);
        }
        Set<String> constants = new TreeSet<>();
        for (Field field : QuarterTurn.class.getDeclaredFields()) {
            if (!Modifier.isPrivate(field.getModifiers())) constants.add(field.getName());
        }
        same("constants", constants,
            Set.of("BAD", "NO", "FULL", "NONE", "NOTHING", "KIND", "INDEX", "SIZE"));
    }

    static void inside() {
        Set<String> face = new TreeSet<>();
        for (Method method : QuarterTurn.class.getMethods()) face.add(method.getName());
        for (Method method : QuarterTurn.class.getDeclaredMethods()) {
            if (Modifier.isPrivate(method.getModifiers())) d.due(method.getName(), face.contains(method.getName()) ? 1 : 0, 0);
        }
        d.due("twelve classes at most", QuarterTurn.class.getDeclaredClasses().length <= 11 ? 1 : 0, 1);
        for (Class<?> c : QuarterTurn.class.getDeclaredClasses()) {
            d.due(c + " is static", Modifier.isStatic(c.getModifiers()) ? 1 : 0, 1);
            int fields = 0;
            for (Field field : c.getDeclaredFields()) if (!Modifier.isStatic(field.getModifiers())) fields++;
            d.due(c + " has twenty fields at most", fields <= 20 ? 1 : 0, 1);
            for (Method method : c.getDeclaredMethods()) {
                d.due(c + " " + method.getName() + " is no name of the face", face.contains(method.getName()) ? 1 : 0, 0);
                d.due("seven parameters at most", method.getParameterCount() <= 7 ? 1 : 0, 1);
            }
        }
    }

    static void words(String source) {
        String code = source.replaceAll("(?s)/\\*.*?\\*/", "").replaceAll("//[^\n]*", "");
        for (String word : new String[] {"throw", "throws", "try", "catch", "finally", "synchronized", "assert", "import",
            "package", "volatile", "transient", "native", "yield", "var", "float", "double"}) {
            d.due("the word " + word, Pattern.compile("\\b" + word + "\\b").matcher(code).find() ? 1 : 0, 0);
        }
        d.due("no lambda", code.contains("->") ? 1 : 0, 0);
        d.due("no method reference", code.contains("::") ? 1 : 0, 0);
        for (char c : source.toCharArray()) if (c > 126) d.due("a sign above 126", c, 0);
        // what is made is made with the object: no call makes more
        int made = 0;
        Matcher m = Pattern.compile("\\bnew \\w+").matcher(code);
        while (m.find()) made++;
        Matcher in = Pattern.compile("(final [\\w\\[\\]]+ \\w+ = |for \\(int i = 0; i < \\w+; i\\+\\+\\) \\w+\\[i\\] = )new \\w+")
            .matcher(code);
        int firsts = 0;
        while (in.find()) firsts++;
        d.due("all is made in fields and constructors", made - firsts, 0);
    }
}
