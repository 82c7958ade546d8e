import java.lang.reflect.Field;
import java.lang.reflect.Member;
import java.lang.reflect.Method;
import java.lang.reflect.Modifier;
import java.util.Set;
import java.util.TreeSet;

/** The public face, as the document has it, and rule 1 of LANGUAGE.md. */
public final class FaceTest {
    private static final String[] METHODS = {
        "int set(int,int,int)", "int told(int,int)", "int lay(int,int)", "int at(int)", "int pourer(int,int)",
        "int feed(int)", "int text()", "int force(int)", "int cup(int,int)", "int all(int)", "long mean(int,int)",
        "int evenest(int)", "int become()", "int fewest(int)", "int next(int)", "int poured(int,int)",
        "int follow(int)", "int which(int)", "int captains(int)", "int tastes(int,int)", "int whom(int)",
        "int forgotten(int)", "int drawn(int,int)", "long chance(int,int,int,int)", "int image()", "int back()",
        "int count(int)", "int sheet(int,int,int)", "int cell(int,int,int)", "int copy(int,int,int,int,int)",
        "int rows(int,int,int,int)", "int taken(int,int)",
    };

    public static void main(String[] args) throws Exception {
        Due.due("final", Modifier.isFinal(EvenlyPoured.class.getModifiers()) ? 1 : 0, 1);
        Due.due("public", Modifier.isPublic(EvenlyPoured.class.getModifiers()) ? 1 : 0, 1);
        constants();
        methods();
        noOthers();
        Due.finish();
    }

    private static void constants() throws Exception {
        Due.due("NONE", EvenlyPoured.NONE, -1);
        Due.due("BAD", EvenlyPoured.BAD, -2);
        Due.due("STATE", EvenlyPoured.STATE, -3);
        Due.due("FULL", EvenlyPoured.FULL, -4);
        Due.due("NO", EvenlyPoured.NO, -4611686018427387904L);
        Set<String> got = new TreeSet<>();
        for (Field field : EvenlyPoured.class.getDeclaredFields()) {
            if (!Modifier.isPrivate(field.getModifiers())) {
                got.add(field.getType() + " " + field.getName());
            }
            if (Modifier.isStatic(field.getModifiers()) && !Modifier.isFinal(field.getModifiers())) {
                Due.fail("static and not final: " + field.getName());
            }
        }
        Due.same("constants", got.toString(), "[int BAD, int FULL, int NONE, int STATE, long NO]");
    }

    private static void methods() {
        Set<String> got = new TreeSet<>();
        Set<String> names = new TreeSet<>();
        for (Method method : EvenlyPoured.class.getDeclaredMethods()) {
            if (Modifier.isPublic(method.getModifiers())) {
                StringBuilder told = new StringBuilder(method.getReturnType() + " " + method.getName() + "(");
                for (int k = 0; k < method.getParameterCount(); k++) {
                    told.append(k == 0 ? "" : ",").append(method.getParameterTypes()[k]);
                }
                got.add(told.append(")").toString());
                names.add(method.getName());
            }
        }
        Due.same("methods", got.toString(), new TreeSet<>(Set.of(METHODS)).toString());
        for (Class<?> inside : EvenlyPoured.class.getDeclaredClasses()) {
            privateNames(inside, names);
        }
        privateNames(EvenlyPoured.class, names);
    }

    private static void privateNames(Class<?> in, Set<String> names) {
        for (Method method : in.getDeclaredMethods()) {
            if (!Modifier.isPublic(method.getModifiers()) && names.contains(method.getName())) {
                Due.fail("bears a public method's name: " + method);
            }
        }
    }

    private static void noOthers() {
        for (Method method : EvenlyPoured.class.getDeclaredMethods()) {
            publicOrPrivate(method);
        }
        Due.due("constructors", EvenlyPoured.class.getDeclaredConstructors().length, 1);
        Due.due("public ones", EvenlyPoured.class.getConstructors().length, 1);
        for (Class<?> inside : EvenlyPoured.class.getDeclaredClasses()) {
            int modifiers = inside.getModifiers();
            Due.due("static: " + inside, Modifier.isStatic(modifiers) ? 1 : 0, 1);
            Due.due("public: " + inside, Modifier.isPublic(modifiers) || Modifier.isProtected(modifiers) ? 1 : 0, 0);
            Due.due("fields of " + inside, inside.getDeclaredFields().length <= 20 ? 1 : 0, 1);
        }
        Due.due("classes inside", EvenlyPoured.class.getDeclaredClasses().length <= 12 ? 1 : 0, 1);
    }

    private static void publicOrPrivate(Member member) {
        int modifiers = member.getModifiers();
        if (!Modifier.isPublic(modifiers) && !Modifier.isPrivate(modifiers)) {
            Due.fail("neither public nor private: " + member);
        }
    }
}
