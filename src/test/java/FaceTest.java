import java.lang.reflect.Constructor;
import java.lang.reflect.Field;
import java.lang.reflect.Method;
import java.lang.reflect.Modifier;
import java.util.Arrays;
import java.util.Set;
import java.util.TreeSet;

/** The face is the document's, and nothing beside it can be seen from outside. */
public final class FaceTest {
    private static final String[] FACE = {
        "int learner(int)",
        "int hours(int,int) throws NoSuchElementException",
        "int claim(int,int,int) throws NoSuchElementException, IllegalArgumentException",
        "int want(int,int) throws NoSuchElementException",
        "int unwant(int) throws NoSuchElementException",
        "boolean bar(int,int,boolean) throws NoSuchElementException",
        "boolean test(int,int,int,boolean) throws NoSuchElementException, IllegalArgumentException",
        "int level(int,int,int) throws NoSuchElementException",
        "int gift(int,int) throws NoSuchElementException",
        "int meet(int,int) throws NoSuchElementException",
        "int ring(int,int,int,int) throws NoSuchElementException",
        "int week()",
        "int rings()",
        "int ringOf(int,int) throws NoSuchElementException",
        "boolean missed(int) throws NoSuchElementException",
        "int waited(int) throws NoSuchElementException",
        "int days(int) throws IllegalArgumentException",
        "int word(int) throws NoSuchElementException",
        "boolean asked(int,int,boolean) throws NoSuchElementException",
        "int wordOf(int,int,int) throws NoSuchElementException",
        "int next(int) throws NoSuchElementException",
        "int feed(int,int,int,int,int)",
        "int correct(int,int) throws IllegalArgumentException",
        "int mark(int) throws NoSuchElementException",
        "int marks(int) throws NoSuchElementException",
        "int count(int) throws NoSuchElementException"};

    public static void main(String[] args) {
        Check check = new Check("face");
        Class<?> face = TongueSwap.class;
        check.due("public and final", Modifier.isPublic(face.getModifiers()) && Modifier.isFinal(face.getModifiers()), true);
        check.due("NONE", TongueSwap.NONE, -1);
        Set<String> seen = new TreeSet<>();
        Set<String> publicNames = new TreeSet<>();
        for (Method m : face.getDeclaredMethods()) {
            if (!Modifier.isPrivate(m.getModifiers())) {
                seen.add(m.getReturnType() + " " + m.getName() + types(m.getParameterTypes()) + thrown(m.getExceptionTypes()));
                publicNames.add(m.getName());
            }
        }
        check.due("methods", seen, new TreeSet<>(Arrays.asList(FACE)));
        for (Class<?> inner : withInner(face)) {
            for (Method m : inner.getDeclaredMethods()) {
                boolean isHidden = inner != face || Modifier.isPrivate(m.getModifiers());
                check.due(inner.getName() + "." + m.getName() + " bears a name of the face",
                    isHidden && publicNames.contains(m.getName()), false);
                check.due(m.getName() + " has too many parameters", m.getParameterCount() > 7, false);
            }
            check.due(inner.getName() + " is static", inner == face || Modifier.isStatic(inner.getModifiers()), true);
        }
        for (Field f : face.getDeclaredFields()) {
            boolean isFace = f.getName().equals("NONE") && Modifier.isPublic(f.getModifiers());
            check.due("field " + f.getName() + " is seen", isFace || Modifier.isPrivate(f.getModifiers()), true);
        }
        Constructor<?>[] constructors = face.getDeclaredConstructors();
        check.due("constructors", constructors.length, 1);
        check.due("constructor", types(constructors[0].getParameterTypes()), "()");
        check.due("constructor is public", Modifier.isPublic(constructors[0].getModifiers()), true);
        check.end();
    }

    private static Class<?>[] withInner(Class<?> face) {
        Class<?>[] inner = face.getDeclaredClasses();
        Class<?>[] all = Arrays.copyOf(inner, inner.length + 1);
        all[inner.length] = face;
        return all;
    }

    private static String thrown(Class<?>[] types) {
        StringBuilder text = new StringBuilder();
        for (Class<?> type : types) {
            text.append(text.length() > 0 ? ", " : " throws ").append(type.getSimpleName());
        }
        return text.toString();
    }

    private static String types(Class<?>[] types) {
        StringBuilder text = new StringBuilder("(");
        for (Class<?> type : types) {
            text.append(text.length() > 1 ? "," : "").append(type.getName());
        }
        return text.append(")").toString();
    }
}
