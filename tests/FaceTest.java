import java.lang.reflect.Method;
import java.lang.reflect.Modifier;
import java.util.ArrayList;
import java.util.List;
import java.util.TreeSet;
import java.util.regex.Matcher;
import java.util.regex.Pattern;

/** The public face is the document's and nothing else. */
public final class FaceTest {
    private static final Pattern METHOD = Pattern.compile("public (\\w+) (\\w+)\\(([^()]*)\\)(?: throws ([\\w, ]+))?;");
    private static final TreeSet<String> FACE = documentsFace();

    /** Each method as told() has it, from the document's own code. */
    private static TreeSet<String> documentsFace() {
        TreeSet<String> face = new TreeSet<>();
        Matcher m = METHOD.matcher(Document.sharedPart());
        while (m.find()) {
            String types = m.group(3).replaceAll(" \\w+(,|$) *", "$1");
            String thrown = m.group(4) == null ? "" : " " + m.group(4).replace(",", "");
            face.add(m.group(1) + " " + m.group(2) + "(" + types + ")" + thrown);
        }
        return face;
    }

    public static void main(String[] args) {
        Check.promise(1);
        TreeSet<String> seen = new TreeSet<>();
        for (Method method : TideBook.class.getDeclaredMethods()) {
            if (!Modifier.isPrivate(method.getModifiers()) && !method.isSynthetic()) {
                Check.yes("public: " + method, Modifier.isPublic(method.getModifiers()));
                seen.add(told(method));
            }
        }
        for (String method : FACE) {
            Check.yes("the face has " + method, seen.contains(method));
        }
        for (String method : seen) {
            Check.yes("the document has " + method, FACE.contains(method));
        }
        Check.same("methods", 51, FACE.size());
        Check.same("constants", 1, TideBook.class.getFields().length);
        Check.same("NONE", -1, TideBook.NONE);
        Check.same("constructors", 1, TideBook.class.getDeclaredConstructors().length);
        Check.same("public constructors", 1, TideBook.class.getConstructors().length);
        Check.yes("final", Modifier.isFinal(TideBook.class.getModifiers()));
        for (var field : TideBook.class.getDeclaredFields()) {
            Check.yes("private: " + field, Modifier.isPrivate(field.getModifiers()) || field.getName().equals("NONE"));
        }
        for (Class<?> inside : TideBook.class.getDeclaredClasses()) {
            Check.yes("static: " + inside, Modifier.isStatic(inside.getModifiers()));
            for (Method method : inside.getDeclaredMethods()) {
                Check.no("a name of the face: " + method, named(method.getName()));
            }
        }
        for (Method method : TideBook.class.getDeclaredMethods()) {
            Check.no("a private name of the face: " + method,
                    Modifier.isPrivate(method.getModifiers()) && named(method.getName()));
        }
        Check.finish();
    }

    private static boolean named(String name) {
        for (String method : FACE) {
            if (method.contains(" " + name + "(")) {
                return true;
            }
        }
        return false;
    }

    private static String told(Method method) {
        List<String> parameters = new ArrayList<>();
        for (Class<?> type : method.getParameterTypes()) {
            parameters.add(type.getSimpleName());
        }
        StringBuilder text = new StringBuilder();
        text.append(method.getReturnType().getSimpleName()).append(' ').append(method.getName());
        text.append('(').append(String.join(",", parameters)).append(')');
        for (Class<?> type : method.getExceptionTypes()) {
            text.append(' ').append(type.getSimpleName());
        }
        return text.toString();
    }
}
