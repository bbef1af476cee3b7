import java.lang.reflect.Constructor;
import java.lang.reflect.Field;
import java.lang.reflect.Method;
import java.lang.reflect.Modifier;
import java.util.Set;
import java.util.TreeSet;

/** The public face is the document's, and nothing else can be reached from outside. */
public final class FaceTest {
    private static final String[] FACE = {
        "int feed(int,int,int,int,int) IllegalStateException",
        "int trim(int) IllegalArgumentException",
        "int teach()",
        "int errorAt()",
        "int count(int) IndexOutOfBoundsException",
        "int garden(int,int) IndexOutOfBoundsException",
        "int rack(int,int) IndexOutOfBoundsException",
        "int bundle(int,int,int) IndexOutOfBoundsException",
        "int dry(int,int,int) IndexOutOfBoundsException",
        "int peeler(int,int) IndexOutOfBoundsException",
        "int boat(int,int) IndexOutOfBoundsException",
        "int grade(int,int) IndexOutOfBoundsException",
        "int shade(int) IndexOutOfBoundsException",
        "int worth(int,int) IndexOutOfBoundsException IllegalArgumentException",
        "int whet(int) IndexOutOfBoundsException IllegalStateException",
        "int load(int,int,int) IndexOutOfBoundsException IllegalArgumentException IllegalStateException",
        "int setShade(int,int) IndexOutOfBoundsException IllegalArgumentException",
        "int setCurrent(int) IllegalArgumentException",
        "int grant(int) IllegalArgumentException",
        "int pass(int) IllegalArgumentException",
        "int until(int) IndexOutOfBoundsException",
        "int foresee(int,int) IllegalArgumentException IndexOutOfBoundsException",
        "int advise(int,int) IndexOutOfBoundsException IllegalArgumentException",
        "int best(int) IllegalArgumentException",
        "double mean()",
        "long digest()",
    };

    public static void main(String[] args) {
        Check check = new Check("FaceTest");
        Set<String> due = new TreeSet<>(Set.of(FACE));
        Set<String> publicNames = new TreeSet<>();
        Set<String> got = new TreeSet<>();
        for (Method method : QuillBoats.class.getDeclaredMethods()) {
            if (!Modifier.isPrivate(method.getModifiers())) {
                got.add(textOf(method));
                publicNames.add(method.getName());
            }
        }
        check.same("methods that are not private", got.toString(), due.toString());
        check.isTrue("the class is public and final", Modifier.isPublic(QuillBoats.class.getModifiers())
                && Modifier.isFinal(QuillBoats.class.getModifiers()));
        check.same("constructors", QuillBoats.class.getDeclaredConstructors().length, 1);
        for (Constructor<?> made : QuillBoats.class.getDeclaredConstructors()) {
            check.isTrue("the constructor is public and plain", Modifier.isPublic(made.getModifiers())
                    && made.getParameterCount() == 0);
        }
        for (Field field : QuillBoats.class.getDeclaredFields()) {
            check.isTrue("private field " + field.getName(), Modifier.isPrivate(field.getModifiers()));
        }
        for (Class<?> inside : QuillBoats.class.getDeclaredClasses()) {
            lookInside(check, inside, publicNames);
        }
        lookInside(check, QuillBoats.class, publicNames);
        check.isTrue("at most twelve classes", QuillBoats.class.getDeclaredClasses().length + 1 <= 12);
        check.end();
    }

    private static String textOf(Method method) {
        StringBuilder text = new StringBuilder();
        text.append(method.getReturnType().getSimpleName()).append(' ').append(method.getName()).append('(');
        for (Class<?> type : method.getParameterTypes()) {
            text.append(text.charAt(text.length() - 1) == '(' ? "" : ",").append(type.getSimpleName());
        }
        text.append(')');
        for (Class<?> type : method.getExceptionTypes()) {
            text.append(' ').append(type.getSimpleName());
        }
        return text.toString();
    }

    /** No method that is not of the face bears the name of one of it; no static state; few fields. */
    private static void lookInside(Check check, Class<?> type, Set<String> publicNames) {
        for (Method method : type.getDeclaredMethods()) {
            boolean ofTheFace = type == QuillBoats.class && Modifier.isPublic(method.getModifiers());
            check.isTrue("own name of " + type.getSimpleName() + "." + method.getName(),
                    ofTheFace || !publicNames.contains(method.getName()));
            check.isTrue("at most seven parameters: " + method.getName(), method.getParameterCount() <= 7);
        }
        int fields = 0;
        for (Field field : type.getDeclaredFields()) {
            boolean ofTheClass = Modifier.isStatic(field.getModifiers());
            check.isTrue("final static " + field.getName(), !ofTheClass || Modifier.isFinal(field.getModifiers()));
            fields += ofTheClass ? 0 : 1;
        }
        check.isTrue("some twenty fields in " + type.getSimpleName(), fields <= 20);
        int modifiers = type.getModifiers();
        check.isTrue("static, not public class " + type.getSimpleName(), type == QuillBoats.class
                || (Modifier.isStatic(modifiers) && !Modifier.isPublic(modifiers) && !Modifier.isProtected(modifiers)));
    }
}
