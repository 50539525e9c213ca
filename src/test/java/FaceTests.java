import java.lang.reflect.Constructor;
import java.lang.reflect.Field;
import java.lang.reflect.Method;
import java.lang.reflect.Modifier;
import java.util.Set;
import java.util.TreeSet;

/** The public face, whole and nothing besides (rule 1 of LANGUAGE.md). */
public final class FaceTests {
    private static final String[] FACE = {
        "int feed int int int int int", "boolean end int", "int tell", "int fault",
        "int athlete int", "boolean set int int", "int at int int",
        "int file int int int int int", "int test int int boolean", "boolean appeal int int",
        "int count int", "int of int int", "int filed int int int", "int failure int int int",
        "int violation int int", "int hole int int", "int lot int int",
        "int chance int boolean", "int round int int int", "int there int int int",
        "int danger int", "int easier int", "int without int int", "int worst"};

    private static final Check C = new Check();

    public static void main(String[] args) throws Exception {
        C.part("face");
        Class<?> face = WhereFound.class;
        C.holds("public final",
            Modifier.isPublic(face.getModifiers()) && Modifier.isFinal(face.getModifiers()));
        C.due("NONE", face.getField("NONE").getInt(null), -1);
        C.holds("of() names its exception", face.getMethod("of", int.class, int.class)
            .getExceptionTypes()[0] == java.util.NoSuchElementException.class);
        Constructor<?>[] made = face.getDeclaredConstructors();
        C.holds("one constructor", made.length == 1 && made[0].getParameterCount() == 0
            && Modifier.isPublic(made[0].getModifiers()));
        methods(face);
        for (Field field : face.getDeclaredFields()) {
            boolean known = field.getName().equals("NONE");
            C.holds("private " + field.getName(),
                known || Modifier.isPrivate(field.getModifiers()));
        }
        for (Class<?> inside : face.getDeclaredClasses()) {
            int is = inside.getModifiers();
            C.holds("static " + inside.getName(), Modifier.isStatic(is)
                && !Modifier.isPublic(is) && !Modifier.isProtected(is));
        }
        C.finish();
    }

    private static void methods(Class<?> face) {
        Set<String> due = new TreeSet<>(Set.of(FACE));
        Set<String> names = new TreeSet<>();
        for (String one : FACE) {
            names.add(one.split(" ")[1]);
        }
        Set<String> there = new TreeSet<>();
        for (Method method : face.getDeclaredMethods()) {
            StringBuilder b = new StringBuilder();
            b.append(method.getReturnType().getName()).append(' ').append(method.getName());
            for (Class<?> parameter : method.getParameterTypes()) {
                b.append(' ').append(parameter.getName());
            }
            if (Modifier.isPrivate(method.getModifiers())) {
                C.holds("own name: " + b, !names.contains(method.getName()));
            } else {
                C.holds("public: " + b, Modifier.isPublic(method.getModifiers())
                    && !Modifier.isStatic(method.getModifiers()));
                there.add(b.toString());
            }
        }
        C.holds("the face " + there, there.equals(due));
    }
}
