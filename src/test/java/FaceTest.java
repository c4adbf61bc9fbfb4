import java.lang.reflect.Constructor;
import java.lang.reflect.Field;
import java.lang.reflect.Method;
import java.lang.reflect.Modifier;
import java.util.Set;
import java.util.TreeSet;

/** The public face: just the members of the document, with their throws clauses in its order. */
public final class FaceTest {
    private static final String I = "IndexOutOfBoundsException";
    private static final String A = "IllegalArgumentException";
    private static final String S = "IllegalStateException";
    private static final String[] FACE = {
        "int row(int,int,int,int) " + I + " " + A + " " + S,
        "int drop(int) " + I,
        "int change(int,int) " + I + " " + A,
        "int person(int,int,int) " + I + " " + A,
        "int master(int,int) " + I + " " + A,
        "int force(int,boolean) " + I,
        "int set(int,int) " + I + " " + A,
        "int ask(int,int,int,int) " + I + " " + A,
        "int askSum(int,int,int,int) " + I + " " + A,
        "int forget(int) " + I,
        "int append(int) " + A + " " + S,
        "int clearBuffer()",
        "int firstError()",
        "int rows() " + A,
        "int undo() " + S,
        "int rowOf(int,int) " + I + " " + A,
        "int personOf(int,int) " + I + " " + A,
        "int veils(int,int) " + I,
        "int remembered(int,int) " + I + " " + A,
        "int count(int) " + A,
        "int ifAsked(int,int,int,int,int) " + I + " " + A,
        "int hides(int) " + I,
        "int blindest()",
        "int needed(int,int) " + I,
        "double openness()",
        "long digest()",
    };

    public static void main(String[] args) {
        Set<String> want = new TreeSet<>(Set.of(FACE));
        Set<String> got = new TreeSet<>();
        Set<String> names = new TreeSet<>();
        for (Method method : RowVeils.class.getDeclaredMethods()) {
            if (!Modifier.isPrivate(method.getModifiers())) {
                got.add(told(method));
                names.add(method.getName());
            }
        }
        Check.dueText("methods", got.toString(), want.toString());
        noPrivateNameIsPublic(RowVeils.class, names);
        for (Class<?> inside : RowVeils.class.getDeclaredClasses()) {
            noPrivateNameIsPublic(inside, names);
            Check.due(inside + " is static", Modifier.isStatic(inside.getModifiers()) ? 1 : 0, 1);
            Check.due(inside + " is public", Modifier.isPublic(inside.getModifiers()) ? 1 : 0, 0);
        }
        fields();
        Constructor<?>[] made = RowVeils.class.getDeclaredConstructors();
        Check.due("constructors", made.length, 1);
        Check.dueText("the constructor", made[0].toString(), "public RowVeils()");
        Check.dueText("the class", Modifier.toString(RowVeils.class.getModifiers()), "public final");
        Check.end("FaceTest");
    }

    private static String told(Method method) {
        StringBuilder told = new StringBuilder();
        told.append(method.getReturnType().getSimpleName()).append(' ').append(method.getName()).append('(');
        String comma = "";
        for (Class<?> type : method.getParameterTypes()) {
            told.append(comma).append(type.getSimpleName());
            comma = ",";
        }
        told.append(')');
        for (Class<?> type : method.getExceptionTypes()) {
            told.append(' ').append(type.getSimpleName());
        }
        return told.toString();
    }

    private static void noPrivateNameIsPublic(Class<?> of, Set<String> names) {
        for (Method method : of.getDeclaredMethods()) {
            boolean isFace = of == RowVeils.class && Modifier.isPublic(method.getModifiers());
            Check.due(of + "." + method.getName() + " has a name of the face",
                    !isFace && names.contains(method.getName()) ? 1 : 0, 0);
        }
    }

    private static void fields() {
        for (Field field : RowVeils.class.getDeclaredFields()) {
            int m = field.getModifiers();
            if (field.getName().equals("NONE")) {
                Check.dueText("NONE", Modifier.toString(m) + " " + field.getType(), "public static final int");
            } else {
                Check.due(field + " is private", Modifier.isPrivate(m) ? 1 : 0, 1);
                Check.due(field + " is final", Modifier.isFinal(m) ? 1 : 0, 1);
            }
        }
    }
}
