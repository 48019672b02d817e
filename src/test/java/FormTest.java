import java.io.IOException;
import java.lang.reflect.Executable;
import java.lang.reflect.Field;
import java.lang.reflect.Modifier;
import java.nio.file.Files;
import java.nio.file.Path;
import java.util.ArrayList;
import java.util.Arrays;
import java.util.List;
import java.util.regex.Matcher;
import java.util.regex.Pattern;

/** The rules of LANGUAGE.md that can be looked up in the class file and its text. */
public final class FormTest {
    public static void main(String[] args) throws IOException {
        List<Class<?>> classes = new ArrayList<>(Arrays.asList(DesignDesk.class.getDeclaredClasses()));
        for (Class<?> one : classes) {
            Check.due("rule 1, static: " + one.getSimpleName(), one.getModifiers() & Modifier.STATIC, Modifier.STATIC);
            Check.due("rule 1, not public: " + one.getSimpleName(),
                    one.getModifiers() & (Modifier.PUBLIC | Modifier.PROTECTED), 0);
        }
        classes.add(DesignDesk.class);
        Check.due("rule 11, at most twelve classes: " + classes.size(), classes.size() <= 12 ? 1 : 0, 1);
        for (Class<?> one : classes) {
            fields(one);
            parameters(one);
        }
        String place = System.getProperty("source", "");
        if (place.isEmpty()) {
            System.out.println("no source is told by -Dsource: its words are not looked at");
        } else {
            words(Files.readString(Path.of(place)));
        }
        Check.end();
    }

    private static void fields(Class<?> one) {
        int own = 0;
        for (Field field : one.getDeclaredFields()) {
            boolean fixed = Modifier.isStatic(field.getModifiers());
            own += fixed ? 0 : 1;
            Check.due("rule 5, final: " + field, fixed && !Modifier.isFinal(field.getModifiers()) ? 1 : 0, 0);
        }
        Check.due("rule 11, fields of " + one.getSimpleName() + ": " + own, own <= 20 ? 1 : 0, 1);
    }

    private static void parameters(Class<?> one) {
        List<Executable> all = new ArrayList<>(Arrays.asList(one.getDeclaredMethods()));
        all.addAll(Arrays.asList(one.getDeclaredConstructors()));
        for (Executable each : all) {
            Check.due("rule 11, parameters of " + each, each.getParameterCount() <= 7 ? 1 : 0, 1);
        }
    }

    private static void words(String source) {
        String code = source.replaceAll("(?s)/\\*.*?\\*/", "").replaceAll("//[^\n]*", "");
        String[] never = {"->", "::", "\\bfinally\\b", "\\bsynchronized\\b", "\\bassert\\b", "\\btry\\b", "\\bcatch\\b",
            "\\bnew Random\\b", "\\bSystem\\.(?!arraycopy)", "\\bThread\\b", "Exact\\(", "\\bdouble\\b", "\\bfloat\\b",
            "\" *\\+ ", "\\+ *\"", "\\bpackage\\b", "\\bvar\\b"};
        for (String word : never) {
            Matcher found = Pattern.compile(word).matcher(code);
            Check.due("rules 2 to 13, never " + word, found.find() ? 1 : 0, 0);
        }
        for (Matcher found = Pattern.compile("import ([^;]*);").matcher(code); found.find();) {
            boolean good = found.group(1).matches("java\\.util\\.(Arrays|NoSuchElementException)");
            Check.due("rule 4, import " + found.group(1), good ? 1 : 0, 1);
        }
        for (Matcher found = Pattern.compile("throw ([^;]*);").matcher(code); found.find();) {
            boolean good = found.group(1).matches("new (IllegalArgument|NoSuchElement)Exception\\(\"[^\"]*\"\\)");
            Check.due("rule 6, throw " + found.group(1), good ? 1 : 0, 1);
        }
        methodLengths(source);
    }

    /** A method begins with a line that ends in "{" behind its parameters, and ends at the same depth. */
    private static void methodLengths(String source) {
        String[] lines = source.split("\n");
        Pattern head = Pattern.compile("^( {4}| {8})(public|private|static|final|void|int|long|boolean|[A-Z]\\w*)\\b"
                + "[^=;]*\\($|^( {4}| {8})[\\w\\[\\] ]+\\([^;=]*$");
        for (int i = 0; i < lines.length; i++) {
            if (head.matcher(lines[i]).find() && !lines[i].trim().startsWith("return")) {
                String indent = lines[i].replaceAll("\\S.*", "");
                int end = i;
                while (end < lines.length - 1 && !lines[end].equals(indent + "}")) {
                    end++;
                }
                int length = end - i + 1;
                Check.due("rule 11, lines of " + lines[i].trim() + ": " + length, length <= 60 ? 1 : 0, 1);
            }
        }
    }
}
