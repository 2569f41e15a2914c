import java.lang.reflect.Constructor;
import java.lang.reflect.Field;
import java.lang.reflect.Method;
import java.lang.reflect.Modifier;
import java.util.Set;
import java.util.TreeSet;

/** The public face as the document has it, and nothing else that can be seen from outside. */
public final class FaceTest {
    private static final Set<String> FACE = Set.of(
            "int kind(int)", "int field(int,int)", "int method(int,int,int,int)", "int parameter(int,int)",
            "boolean slot(int,int)", "int op(int,int,int,int)", "int handler(int,int,int,int,int)",
            "int verify(int)", "int stands(int,int,int,int)", "int looked()");

    public static void main(String[] args) {
        constants();
        constructorAndMethods();
        classesInside();
        Due.end();
    }

    private static void constants() {
        Due.terms("The public face: constants");
        Due.is("NONE", CodeVerifier.NONE, -1);
        Due.is("FULL", CodeVerifier.FULL, -2);
        for (Field f : CodeVerifier.class.getDeclaredFields()) {
            boolean isOfFace = f.getName().equals("NONE") || f.getName().equals("FULL");
            int modifiers = f.getModifiers();
            Due.is("field " + f.getName() + " public", Modifier.isPublic(modifiers), isOfFace);
            Due.is("field " + f.getName() + " private", Modifier.isPrivate(modifiers), !isOfFace);
            Due.is("field " + f.getName() + " static, but not final",
                    Modifier.isStatic(modifiers) && !Modifier.isFinal(modifiers), false);
        }
    }

    private static void constructorAndMethods() {
        Due.terms("The public face: constructor and methods");
        Due.is("public", Modifier.isPublic(CodeVerifier.class.getModifiers()), true);
        Due.is("final", Modifier.isFinal(CodeVerifier.class.getModifiers()), true);
        Constructor<?>[] constructors = CodeVerifier.class.getDeclaredConstructors();
        Due.is("constructors", constructors.length, 1);
        Due.is("public constructor", Modifier.isPublic(constructors[0].getModifiers()), true);
        Due.is("constructor's parameters", constructors[0].getParameterCount(), 0);
        Set<String> seen = new TreeSet<>();
        Set<String> privates = new TreeSet<>();
        for (Method m : CodeVerifier.class.getDeclaredMethods()) {
            if (Modifier.isPrivate(m.getModifiers())) {
                privates.add(m.getName());
            } else {
                seen.add(faceOf(m));
                Due.is(m.getName() + " public", Modifier.isPublic(m.getModifiers()), true);
                Due.is(m.getName() + " static", Modifier.isStatic(m.getModifiers()), false);
            }
        }
        Due.is("the methods " + seen, seen.equals(FACE), true);
        Due.rule(1, "No private method bears the name of a public one");
        for (String face : FACE) {
            String name = face.substring(face.indexOf(' ') + 1, face.indexOf('('));
            Due.is("a private method named " + name, privates.contains(name), false);
        }
    }

    private static String faceOf(Method m) {
        StringBuilder types = new StringBuilder();
        for (Class<?> type : m.getParameterTypes()) {
            types.append(types.length() == 0 ? "" : ",").append(type.getName());
        }
        return m.getReturnType().getName() + " " + m.getName() + "(" + types + ")";
    }

    private static void classesInside() {
        Due.rule(1, "the classes inside it, which are private or package-visible and static");
        for (Class<?> c : CodeVerifier.class.getDeclaredClasses()) {
            Due.is(c.getName() + " static", Modifier.isStatic(c.getModifiers()), true);
            Due.is(c.getName() + " private", Modifier.isPrivate(c.getModifiers()), true);
        }
    }
}
