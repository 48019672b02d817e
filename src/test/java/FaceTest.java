import java.lang.reflect.Constructor;
import java.lang.reflect.Field;
import java.lang.reflect.Method;
import java.lang.reflect.Modifier;
import java.util.Arrays;
import java.util.Set;
import java.util.TreeSet;

/** The public face is the document's, and nothing more. */
public final class FaceTest {
    public static void main(String[] args) {
        Class<?> face = DesignDesk.class;
        Check.due("public final class", face.getModifiers(), Modifier.PUBLIC | Modifier.FINAL);
        Set<String> want = new TreeSet<>(Arrays.asList(
                "int feed(int,int,int,int,int)", "int text(int) IllegalArgumentException", "int fault()",
                "int paint(int,int,int,int) NoSuchElementException IllegalArgumentException",
                "int day(int,int) NoSuchElementException IllegalArgumentException",
                "int drop(int) NoSuchElementException", "int undo()", "int told(int) IllegalArgumentException",
                "int of(int,int) NoSuchElementException IllegalArgumentException",
                "int cell(int,int,int) NoSuchElementException",
                "int over(int,int,int,int,int,int) NoSuchElementException IllegalArgumentException",
                "int best(int,int,int) NoSuchElementException IllegalArgumentException",
                "int prior(int,int) NoSuchElementException IllegalArgumentException",
                "int infringes(int,int) NoSuchElementException IllegalArgumentException",
                "int nearest(int) NoSuchElementException", "int groups()", "long print()", "int status(int)"));
        Set<String> got = new TreeSet<>();
        Set<String> publicNames = new TreeSet<>();
        for (Method method : face.getDeclaredMethods()) {
            if (!Modifier.isPrivate(method.getModifiers())) {
                got.add(told(method));
                publicNames.add(method.getName());
            }
        }
        Set<String> extra = new TreeSet<>(got);
        extra.removeAll(want);
        want.removeAll(got);
        Check.due("methods beyond the face " + extra, extra.size(), 0);
        Check.due("methods that are missing " + want, want.size(), 0);
        for (Method method : face.getDeclaredMethods()) {
            if (Modifier.isPrivate(method.getModifiers())) {
                Check.due("name of private " + method.getName(), publicNames.contains(method.getName()) ? 1 : 0, 0);
            }
        }
        Constructor<?>[] makers = face.getDeclaredConstructors();
        Check.due("constructors", makers.length, 1);
        Check.due("public constructor", makers[0].getModifiers() & Modifier.PUBLIC, Modifier.PUBLIC);
        for (Field field : face.getDeclaredFields()) {
            boolean none = field.getName().equals("NONE");
            Check.due("field " + field.getName(),
                    Modifier.isPrivate(field.getModifiers()) ? 0 : 1, none ? 1 : 0);
        }
        Check.due("NONE", DesignDesk.NONE, -1);
        Check.end();
    }

    private static String told(Method method) {
        StringBuilder text = new StringBuilder(method.getReturnType().getName()).append(' ');
        text.append(method.getName()).append('(');
        for (Class<?> one : method.getParameterTypes()) {
            text.append(text.charAt(text.length() - 1) == '(' ? "" : ",").append(one.getName());
        }
        text.append(')');
        for (Class<?> one : method.getExceptionTypes()) {
            text.append(' ').append(one.getSimpleName());
        }
        return text.toString();
    }
}
