import java.lang.reflect.Constructor;
import java.lang.reflect.Field;
import java.lang.reflect.Method;
import java.lang.reflect.Modifier;
import java.util.Arrays;
import java.util.Set;
import java.util.TreeSet;

/** The face is the document's, and nothing beside it can be seen from outside. */
public final class FaceTest {
    private static final String[] FACE = {
        "int learner(int)", "int hours(int,int)", "int claim(int,int,int)", "int want(int,int)", "int unwant(int)",
        "boolean bar(int,int,boolean)", "boolean test(int,int,int,boolean)", "int level(int,int,int)",
        "int gift(int,int)", "int meet(int,int)", "int ring(int,int,int,int)", "int week()", "int rings()",
        "int ringOf(int,int)", "boolean missed(int)", "int waited(int)", "int days(int)", "int word(int)",
        "boolean asked(int,int,boolean)", "int wordOf(int,int,int)", "int next(int)", "int feed(int,int,int,int,int)",
        "int correct(int,int)", "int mark(int)", "int marks(int)", "int count(int)"};

    public static void main(String[] args) {
        Check check = new Check("face");
        Class<?> face = TongueSwap.class;
        check.due("public and final", Modifier.isPublic(face.getModifiers()) && Modifier.isFinal(face.getModifiers()), true);
        check.due("NONE", TongueSwap.NONE, -1);
        Set<String> seen = new TreeSet<>();
        Set<String> publicNames = new TreeSet<>();
        for (Method m : face.getDeclaredMethods()) {
            if (!Modifier.isPrivate(m.getModifiers())) {
                seen.add(m.getReturnType() + " " + m.getName() + types(m.getParameterTypes()));
                publicNames.add(m.getName());
            }
        }
        check.due("methods", seen, new TreeSet<>(Arrays.asList(FACE)));
        for (Class<?> inner : withInner(face)) {
            for (Method m : inner.getDeclaredMethods()) {
                boolean isHidden = inner != face || Modifier.isPrivate(m.getModifiers());
                check.due(inner.getName() + "." + m.getName() + " bears a name of the face",
                    isHidden && publicNames.contains(m.getName()), false);
                check.due(m.getName() + " has too many parameters", m.getParameterCount() > 7, false);
            }
            check.due(inner.getName() + " is static", inner == face || Modifier.isStatic(inner.getModifiers()), true);
        }
        for (Field f : face.getDeclaredFields()) {
            boolean isFace = f.getName().equals("NONE") && Modifier.isPublic(f.getModifiers());
            check.due("field " + f.getName() + " is seen", isFace || Modifier.isPrivate(f.getModifiers()), true);
        }
        Constructor<?>[] constructors = face.getDeclaredConstructors();
        check.due("constructors", constructors.length, 1);
        check.due("constructor", types(constructors[0].getParameterTypes()), "()");
        check.end();
    }

    private static Class<?>[] withInner(Class<?> face) {
        Class<?>[] inner = face.getDeclaredClasses();
        Class<?>[] all = Arrays.copyOf(inner, inner.length + 1);
        all[inner.length] = face;
        return all;
    }

    private static String types(Class<?>[] types) {
        StringBuilder text = new StringBuilder("(");
        for (Class<?> type : types) {
            text.append(text.length() > 1 ? "," : "").append(type.getName());
        }
        return text.append(")").toString();
    }
}
