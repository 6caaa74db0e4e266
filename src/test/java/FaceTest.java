import java.lang.reflect.Constructor;
import java.lang.reflect.Field;
import java.lang.reflect.Method;
import java.lang.reflect.Modifier;
import java.util.Set;
import java.util.TreeSet;

/** The public face, as the document has it, and nothing beside it. */
public final class FaceTest {
    private static final String[] FACE = {
        "int points(int) IllegalArgumentException",
        "int concept(int) IllegalArgumentException UnsupportedOperationException IllegalStateException",
        "int family(char) IllegalArgumentException UnsupportedOperationException IllegalStateException",
        "int setOf(int) IndexOutOfBoundsException",
        "boolean teach(char,int,int) IllegalArgumentException IndexOutOfBoundsException UnsupportedOperationException",
        "int seed(int) IllegalArgumentException",
        "boolean ask(int) IllegalArgumentException UnsupportedOperationException IllegalStateException",
        "int equal(int) IllegalArgumentException UnsupportedOperationException IllegalStateException",
        "int answers()",
        "int conflicts(int) IndexOutOfBoundsException",
        "boolean isAlive(int) IndexOutOfBoundsException",
        "int alive()",
        "char sure(int) IllegalArgumentException",
        "int best() NoSuchElementException",
        "int learn() UnsupportedOperationException",
        "int found() NoSuchElementException",
        "boolean isShattered(int) IllegalArgumentException",
        "int dimension()",
        "int lesson(int) IndexOutOfBoundsException",
        "int depth()",
        "int mistakes()",
        "int halver(int) IndexOutOfBoundsException",
        "int experts(int) IllegalArgumentException",
        "boolean round(int,boolean) IllegalArgumentException UnsupportedOperationException",
        "int weight(int) IndexOutOfBoundsException",
        "int regret() UnsupportedOperationException",
        "int state(boolean) IllegalStateException",
        "int go(int,char,int) IndexOutOfBoundsException IllegalArgumentException",
        "boolean accepts(int,int) IllegalArgumentException UnsupportedOperationException",
        "int apart(int,int) IndexOutOfBoundsException NoSuchElementException",
        "int leastStates() UnsupportedOperationException",
        "int sample(int,int,boolean) IllegalArgumentException UnsupportedOperationException IllegalStateException",
        "boolean fits() UnsupportedOperationException",
        "int fewest() NoSuchElementException",
        "int secret(int) IllegalArgumentException",
        "int guess(int) IllegalArgumentException IllegalStateException",
        "int possible()",
        "int nextCode()",
        "int things(int) IllegalArgumentException",
        "int ahead(int,int) IllegalArgumentException UnsupportedOperationException",
        "int orders()",
        "int pair() NoSuchElementException",
        "long checksum()",
        "float aliveShare() NoSuchElementException",
        "double meanLesson() NoSuchElementException",
        "boolean isSound()",
    };

    private static int wrong = 0;

    public static void main(String[] args) {
        Set<String> due = new TreeSet<>(Set.of(FACE));
        Set<String> names = new TreeSet<>();
        for (Method method : Queryschool.class.getDeclaredMethods()) {
            if (Modifier.isPublic(method.getModifiers())) {
                names.add(method.getName());
                check(due.remove(told(method)), "not in the document: " + told(method));
                check(!Modifier.isStatic(method.getModifiers()), "static: " + told(method));
            }
        }
        check(due.isEmpty(), "missing: " + due);
        classItself();
        hidden(Queryschool.class, names);
        for (Class<?> inner : Queryschool.class.getDeclaredClasses()) {
            check(Modifier.isStatic(inner.getModifiers()), "not static: " + inner);
            check(!Modifier.isPublic(inner.getModifiers()) && !Modifier.isProtected(inner.getModifiers()),
                    "open to all: " + inner);
            hidden(inner, names);
        }
        System.out.println("FaceTest: " + FACE.length + " methods, " + wrong + " wrong");
        if (wrong != 0) {
            System.exit(1);
        }
    }

    private static void check(boolean holds, String what) {
        if (!holds) {
            wrong++;
            System.out.println(what);
        }
    }

    private static String told(Method method) {
        StringBuilder text = new StringBuilder();
        text.append(method.getReturnType().getName()).append(' ').append(method.getName()).append('(');
        for (int i = 0; i < method.getParameterCount(); i++) {
            text.append(i == 0 ? "" : ",").append(method.getParameterTypes()[i].getName());
        }
        text.append(')');
        for (Class<?> thrown : method.getExceptionTypes()) {
            text.append(' ').append(thrown.getSimpleName());
        }
        return text.toString();
    }

    private static void classItself() {
        int modifiers = Queryschool.class.getModifiers();
        check(Modifier.isPublic(modifiers) && Modifier.isFinal(modifiers), "the class is public and final");
        check(Queryschool.class.getPackageName().isEmpty(), "the class has no package");
        Constructor<?>[] constructors = Queryschool.class.getDeclaredConstructors();
        check(constructors.length == 1 && constructors[0].getParameterCount() == 0
                && Modifier.isPublic(constructors[0].getModifiers()), "one public constructor");
        for (Field field : Queryschool.class.getDeclaredFields()) {
            check(Modifier.isPrivate(field.getModifiers()), "not private: " + field);
        }
    }

    private static void hidden(Class<?> owner, Set<String> names) {
        for (Method method : owner.getDeclaredMethods()) {
            boolean isFace = owner == Queryschool.class && Modifier.isPublic(method.getModifiers());
            check(isFace || !names.contains(method.getName()), "bears a name of the face: " + method);
            check(isFace || owner != Queryschool.class || Modifier.isPrivate(method.getModifiers()),
                    "not private: " + method);
        }
        for (Field field : owner.getDeclaredFields()) {
            check(!Modifier.isStatic(field.getModifiers()) || Modifier.isFinal(field.getModifiers()),
                    "static state: " + field);
        }
    }
}
