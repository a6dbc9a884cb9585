import java.io.IOException;
import java.lang.reflect.Field;
import java.lang.reflect.Method;
import java.lang.reflect.Modifier;
import java.nio.file.Files;
import java.nio.file.Path;
import java.util.ArrayList;
import java.util.List;
import java.util.Set;
import java.util.regex.Matcher;
import java.util.regex.Pattern;

/** Rules of LANGUAGE.md that can be seen in the file or in its classes; what is printed as a promise is a rule here. */
public final class LanguageTest {
    private static final Path SOURCE = Path.of("src/main/java/TideTreaty.java");
    private static final String[] RULED_OUT = {"throw", "throws", "try", "catch", "finally", "synchronized", "assert",
        "import", "package", "protected", "volatile", "native", "double", "float", "hashCode", "toString", "instanceof"};
    private static final Set<String> LIBRARY = Set.of("String", "Math", "Integer", "System");
    private static final Checks checks = new Checks();

    public static void main(String[] args) throws IOException {
        List<String> lines = Files.readAllLines(SOURCE);
        String code = withoutCommentsAndTexts(String.join("\n", lines));
        List<Class<?>> classes = new ArrayList<>(List.of(TideTreaty.class.getDeclaredClasses()));
        for (Class<?> one : classes) checks.due(2, one + " is static", one.getModifiers() & Modifier.STATIC, Modifier.STATIC);
        classes.add(TideTreaty.class);
        wordsRuledOut(code);
        libraryAlone(code, classes);
        fields(classes);
        sizes(lines, classes);
        checks.finish();
    }

    private static String withoutCommentsAndTexts(String source) {
        return source.replaceAll("(?s)/\\*.*?\\*/", "").replaceAll("//[^\n]*", "").replaceAll("\"[^\"\n]*\"", "\"\"")
            .replaceAll("'[^'\n]'", "' '");
    }

    private static int timesIn(String code, String pattern) {
        Matcher m = Pattern.compile(pattern).matcher(code);
        int times = 0;
        while (m.find()) times++;
        return times;
    }

    private static void wordsRuledOut(String code) {
        for (String word : RULED_OUT) checks.due(6, "the word " + word, timesIn(code, "\\b" + word + "\\b"), 0);
        checks.due(2, "a lambda", timesIn(code, "->"), 0);
        checks.due(2, "a method reference", timesIn(code, "::"), 0);
        checks.due(4, "a function whose name ends in Exact", timesIn(code, "Exact\\b"), 0);
        checks.due(5, "a static initialiser", timesIn(code, "static\\s*\\{"), 0);
        checks.due(10, "texts joined by +", timesIn(code, "\"\"\\s*\\+|\\+\\s*\"\""), 0);
    }

    /** Every name that begins with a capital and a small letter is a class of the file, or one that the rules list. */
    private static void libraryAlone(String code, List<Class<?>> classes) {
        Matcher m = Pattern.compile("\\b[A-Z][A-Za-z0-9]*[a-z][A-Za-z0-9]*\\b").matcher(code);
        while (m.find()) {
            boolean known = LIBRARY.contains(m.group());
            for (Class<?> own : classes) known |= own.getSimpleName().equals(m.group());
            checks.due(4, m.group() + " may be used", known ? 1 : 0, 1);
        }
        checks.due(4, "System but for arraycopy", timesIn(code, "\\bSystem\\.(?!arraycopy\\b)"), 0);
    }

    private static void fields(List<Class<?>> classes) {
        for (Class<?> one : classes) {
            int own = 0;
            for (Field f : one.getDeclaredFields()) {
                if (!Modifier.isStatic(f.getModifiers())) own++;
                else checks.due(5, one + " " + f.getName() + " is final", f.getModifiers() & Modifier.FINAL, Modifier.FINAL);
            }
            checks.due(11, one + " has " + own + " fields, too many", own > 20 ? 1 : 0, 0);
        }
    }

    private static void sizes(List<String> lines, List<Class<?>> classes) {
        checks.due(11, "more than twelve classes", classes.size() > 12 ? 1 : 0, 0);
        for (Class<?> one : classes) {
            for (Method m : one.getDeclaredMethods()) {
                checks.due(11, one + " " + m.getName() + " takes too many", m.getParameterCount() > 7 ? 1 : 0, 0);
            }
        }
        Pattern head = Pattern.compile("( {4}| {8})[A-Za-z][^=;]*\\) \\{");
        for (int i = 0; i < lines.size(); i++) {
            Matcher m = head.matcher(lines.get(i));
            if (!m.matches()) continue;
            int end = i;
            while (end < lines.size() && !lines.get(end).equals(m.group(1) + "}")) end++;
            checks.due(11, "too long:" + lines.get(i), end - i > 60 ? 1 : 0, 0);
        }
    }
}
