import java.lang.reflect.Constructor;
import java.lang.reflect.Executable;
import java.lang.reflect.Field;
import java.lang.reflect.Member;
import java.lang.reflect.Method;
import java.lang.reflect.Modifier;
import java.util.Set;
import java.util.TreeSet;
import java.util.stream.Collectors;
import java.util.stream.Stream;

/** 'The public face': the class has every row of it, and nothing else that can be seen. */
public final class FaceTest {
    private static final Set<String> FACE = new TreeSet<>(Set.of(
            "boolean type(int, int)",
            "int read()",
            "int variables()",
            "int live()",
            "int literal(int, int)",
            "int solve()",
            "int value(int)",
            "int count()",
            "int forced(int, int)",
            "int line()",
            "boolean refuted()",
            "boolean proves()"));

    private static int wrong;

    public static void main(String[] args) {
        Class<?> court = ProofCourt.class;
        theClass(court);
        theConstructor(court);
        theMethods(court);
        nothingElse(court);
        theClassesInside(court);
        System.out.println("the face, " + wrong + " wrong");
        if (wrong != 0) {
            System.exit(1);
        }
    }

    private static void theClass(Class<?> court) {
        expect("the class is public", Modifier.isPublic(court.getModifiers()));
        expect("the class is final", Modifier.isFinal(court.getModifiers()));
        expect("the class has no package", court.getPackageName().isEmpty());
        expect("the class extends nothing", court.getSuperclass() == Object.class);
        expect("the class implements nothing", court.getInterfaces().length == 0);
    }

    private static void theConstructor(Class<?> court) {
        Constructor<?>[] made = court.getDeclaredConstructors();
        expect("there is one constructor", made.length == 1);
        expect("the constructor is public", Modifier.isPublic(made[0].getModifiers()));
        expect("the constructor takes nothing", made[0].getParameterCount() == 0);
        throwsNothing(made[0]);
    }

    private static void theMethods(Class<?> court) {
        Set<String> told = new TreeSet<>();
        for (Method method : court.getDeclaredMethods()) {
            if (Modifier.isPublic(method.getModifiers())) {
                told.add(shown(method));
                expect(shown(method) + " is called on an object",
                        !Modifier.isStatic(method.getModifiers()));
                throwsNothing(method);
            }
        }
        expect("the public methods are " + FACE + ", not " + told, told.equals(FACE));
    }

    private static void nothingElse(Class<?> court) {
        for (Field field : court.getDeclaredFields()) {
            expect("the field " + field.getName() + " is private", isPrivate(field));
            expect("the static field " + field.getName() + " is final",
                    !Modifier.isStatic(field.getModifiers())
                            || Modifier.isFinal(field.getModifiers()));
        }
        Set<String> names = FACE.stream().map(FaceTest::nameOf).collect(Collectors.toSet());
        for (Method method : court.getDeclaredMethods()) {
            if (!Modifier.isPublic(method.getModifiers())) {
                expect(shown(method) + " is private", isPrivate(method));
                expect(shown(method) + " bears no public name", !names.contains(method.getName()));
            }
        }
    }

    private static void theClassesInside(Class<?> court) {
        Set<String> names = FACE.stream().map(FaceTest::nameOf).collect(Collectors.toSet());
        for (Class<?> inside : court.getDeclaredClasses()) {
            int modifiers = inside.getModifiers();
            expect(inside.getName() + " is static", Modifier.isStatic(modifiers));
            expect(inside.getName() + " is not part of the face",
                    !Modifier.isPublic(modifiers) && !Modifier.isProtected(modifiers));
            for (Method method : inside.getDeclaredMethods()) {
                expect(shown(method) + " of " + inside.getName() + " bears no public name",
                        !names.contains(method.getName()));
            }
            for (Field field : inside.getDeclaredFields()) {
                expect("no state of " + inside.getName() + " is static: " + field.getName(),
                        !Modifier.isStatic(field.getModifiers()));
            }
        }
    }

    private static void throwsNothing(Executable call) {
        expect(call.getName() + " declares no exception", call.getExceptionTypes().length == 0);
    }

    private static boolean isPrivate(Member member) {
        return member.isSynthetic() || Modifier.isPrivate(member.getModifiers());
    }

    private static String shown(Method method) {
        return method.getReturnType() + " " + method.getName()
                + Stream.of(method.getParameterTypes()).map(Class::toString)
                        .collect(Collectors.joining(", ", "(", ")"));
    }

    private static String nameOf(String row) {
        return row.substring(row.indexOf(' ') + 1, row.indexOf('('));
    }

    private static void expect(String what, boolean holds) {
        if (!holds) {
            wrong++;
            System.out.println("it does not hold that " + what);
        }
    }
}
