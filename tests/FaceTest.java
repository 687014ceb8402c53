import java.lang.reflect.Method;
import java.lang.reflect.Modifier;
import java.util.ArrayList;
import java.util.Arrays;
import java.util.List;
import java.util.TreeSet;

/** The public face is the document's and nothing else. */
public final class FaceTest {
    private static final String[] FACE = {
        "int feed(int,int,int,int,int)", "boolean end(int)",
        "int coast() IllegalArgumentException UnsupportedOperationException", "int law() IllegalArgumentException",
        "int fault()", "int ground(int) IndexOutOfBoundsException",
        "int monk(int,int) IndexOutOfBoundsException NoSuchElementException",
        "int duty(int,int) IndexOutOfBoundsException NoSuchElementException",
        "int range(int) IllegalArgumentException", "int water(int) IllegalArgumentException",
        "int depth(int,int) IndexOutOfBoundsException IllegalArgumentException",
        "int printed(int) IllegalArgumentException",
        "int goal(int,int) IndexOutOfBoundsException IllegalStateException",
        "int rest(int) IndexOutOfBoundsException IllegalStateException",
        "int error(int,int) IllegalArgumentException", "int edition(int) IllegalArgumentException",
        "int wind(int) IllegalArgumentException", "boolean anew(int) IndexOutOfBoundsException",
        "int hours(int) IllegalArgumentException", "int high(int) IllegalArgumentException",
        "int low(int) IllegalArgumentException", "int dry(int,int) IndexOutOfBoundsException IllegalArgumentException",
        "int highest(int) IllegalArgumentException",
        "int way(int,int,int,int,int) IndexOutOfBoundsException IllegalArgumentException",
        "int start(int,int,int,int,int) IndexOutOfBoundsException IllegalArgumentException",
        "int safe(int,int,int,int) IndexOutOfBoundsException IllegalArgumentException",
        "int fetch(int) IndexOutOfBoundsException",
        "int send(int) IndexOutOfBoundsException IllegalArgumentException",
        "int most(int,int) IndexOutOfBoundsException", "int came(boolean) IllegalArgumentException",
        "int amends(boolean) IllegalArgumentException", "int witness() IllegalArgumentException",
        "int clash(int,int) IllegalArgumentException", "int blank()", "int neaps()", "int stranded()",
        "int ahead(int,int) IndexOutOfBoundsException IllegalArgumentException",
        "int doomed(int) IllegalArgumentException", "int done(int) IllegalArgumentException", "int lost()",
        "int odds(int,int) IllegalArgumentException",
        "int risk(int,int,int) IndexOutOfBoundsException IllegalArgumentException",
        "int trial(int,boolean) IllegalArgumentException", "int span(int,boolean) IllegalArgumentException",
        "int led(int,boolean) IndexOutOfBoundsException", "int log(int,int) NoSuchElementException",
        "int seed(int)", "boolean undo()", "void image()", "boolean back()", "int count(int)"};

    public static void main(String[] args) {
        Check.promise(1);
        TreeSet<String> seen = new TreeSet<>();
        for (Method method : TideBook.class.getDeclaredMethods()) {
            if (!Modifier.isPrivate(method.getModifiers()) && !method.isSynthetic()) {
                Check.yes("public: " + method, Modifier.isPublic(method.getModifiers()));
                seen.add(told(method));
            }
        }
        TreeSet<String> want = new TreeSet<>(Arrays.asList(FACE));
        for (String method : want) {
            Check.yes("the face has " + method, seen.contains(method));
        }
        for (String method : seen) {
            Check.yes("the document has " + method, want.contains(method));
        }
        Check.same("methods", 51, want.size());
        Check.same("constants", 1, TideBook.class.getFields().length);
        Check.same("NONE", -1, TideBook.NONE);
        Check.same("constructors", 1, TideBook.class.getDeclaredConstructors().length);
        Check.same("public constructors", 1, TideBook.class.getConstructors().length);
        Check.yes("final", Modifier.isFinal(TideBook.class.getModifiers()));
        for (var field : TideBook.class.getDeclaredFields()) {
            Check.yes("private: " + field, Modifier.isPrivate(field.getModifiers()) || field.getName().equals("NONE"));
        }
        for (Class<?> inside : TideBook.class.getDeclaredClasses()) {
            Check.yes("static: " + inside, Modifier.isStatic(inside.getModifiers()));
            for (Method method : inside.getDeclaredMethods()) {
                Check.no("a name of the face: " + method, named(method.getName()));
            }
        }
        for (Method method : TideBook.class.getDeclaredMethods()) {
            Check.no("a private name of the face: " + method,
                    Modifier.isPrivate(method.getModifiers()) && named(method.getName()));
        }
        Check.finish();
    }

    private static boolean named(String name) {
        for (String method : FACE) {
            if (method.contains(" " + name + "(")) {
                return true;
            }
        }
        return false;
    }

    private static String told(Method method) {
        List<String> parameters = new ArrayList<>();
        for (Class<?> type : method.getParameterTypes()) {
            parameters.add(type.getSimpleName());
        }
        StringBuilder text = new StringBuilder();
        text.append(method.getReturnType().getSimpleName()).append(' ').append(method.getName());
        text.append('(').append(String.join(",", parameters)).append(')');
        for (Class<?> type : method.getExceptionTypes()) {
            text.append(' ').append(type.getSimpleName());
        }
        return text.toString();
    }
}
