import java.lang.reflect.Constructor;
import java.lang.reflect.Field;
import java.lang.reflect.Method;
import java.lang.reflect.Modifier;
import java.util.Set;
import java.util.TreeSet;

/** The public face is the document's, and no other member of the class is to be seen. */
public final class FaceTest {
    private static final Set<String> METHODS = Set.of(
        "int input()", "int constant(int)", "int operation(int,int,int)", "int output(int)",
        "boolean point(int,int)", "boolean direction(int,int)", "boolean weight(int,int)",
        "int value(int)", "int forward(int)", "int reverse(int)", "int taylor(int,int)",
        "int second(int,int,int)", "boolean depends(int,int)", "int colour(int)", "int colours()",
        "int entry(int,int)", "int size()", "int march(int,int)", "int arrived(int)", "int adjoint(int)");

    public static void main(String[] args) {
        Class<?> face = DerivativeTape.class;
        Check.due("the class is public and final", face.getModifiers(), Modifier.PUBLIC | Modifier.FINAL);
        constants();
        constructors(face);
        methods(face);
        fields(face);
        classesInside(face);
        Check.finish();
    }

    private static void constants() {
        Check.due("UNDEFINED", DerivativeTape.UNDEFINED, -1);
        Check.due("ROUGH", DerivativeTape.ROUGH, -2);
        Check.due("REFUSED", DerivativeTape.REFUSED, -3);
    }

    private static void constructors(Class<?> face) {
        Constructor<?>[] all = face.getDeclaredConstructors();
        Check.due("number of constructors", all.length, 1);
        Check.due("parameters of the constructor", all[0].getParameterCount(), 0);
        Check.due("the constructor is public", all[0].getModifiers(), Modifier.PUBLIC);
    }

    private static void methods(Class<?> face) {
        Set<String> seen = new TreeSet<>();
        Set<String> names = new TreeSet<>();
        for (Method method : face.getDeclaredMethods()) {
            if (Modifier.isPrivate(method.getModifiers())) continue;
            seen.add(told(method));
            names.add(method.getName());
            Check.due(told(method) + " is public alone", method.getModifiers(), Modifier.PUBLIC);
        }
        Check.due("the methods " + seen, seen.equals(METHODS), true);
        for (Method method : face.getDeclaredMethods()) hidden(method, names);
        for (Class<?> inside : face.getDeclaredClasses()) {
            for (Method method : inside.getDeclaredMethods()) hidden(method, names);
        }
    }

    private static void hidden(Method method, Set<String> names) {
        boolean isPrivate = !Modifier.isPublic(method.getModifiers());
        Check.due(method + " bears a public name", isPrivate && names.contains(method.getName()), false);
    }

    private static String told(Method method) {
        StringBuilder text = new StringBuilder();
        text.append(method.getReturnType().getName()).append(' ').append(method.getName()).append('(');
        for (Class<?> type : method.getParameterTypes()) {
            if (text.charAt(text.length() - 1) != '(') text.append(',');
            text.append(type.getName());
        }
        return text.append(')').toString();
    }

    private static void fields(Class<?> face) {
        Set<String> seen = new TreeSet<>();
        for (Field field : face.getDeclaredFields()) {
            if (!Modifier.isPrivate(field.getModifiers())) {
                seen.add(field.getName());
                Check.due(field + " is a public constant", field.getModifiers(),
                    Modifier.PUBLIC | Modifier.STATIC | Modifier.FINAL);
            } else if (Modifier.isStatic(field.getModifiers())) {
                Check.due(field + " is final", Modifier.isFinal(field.getModifiers()), true);
            }
        }
        Check.due("the constants " + seen, seen.equals(Set.of("UNDEFINED", "ROUGH", "REFUSED")), true);
    }

    private static void classesInside(Class<?> face) {
        for (Class<?> inside : face.getDeclaredClasses()) {
            int modifiers = inside.getModifiers();
            Check.due(inside + " is static", Modifier.isStatic(modifiers), true);
            Check.due(inside + " is hidden", Modifier.isPublic(modifiers) || Modifier.isProtected(modifiers), false);
        }
    }
}
