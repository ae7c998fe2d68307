import java.lang.reflect.Constructor;
import java.lang.reflect.Field;
import java.lang.reflect.Method;
import java.lang.reflect.Modifier;
import java.util.Set;
import java.util.TreeSet;

/** The class has the document's public face, what stands behind "throws" too, and nothing beside it. */
public final class FaceTest {

    private static final Set<String> FACE = Set.of(
            "public int line(int,int,int) throws IllegalArgumentException IllegalStateException",
            "public void drop(int) throws IndexOutOfBoundsException",
            "public int cuts() throws",
            "public long cut(int,int) throws IndexOutOfBoundsException IllegalArgumentException",
            "public int curves(int) throws IndexOutOfBoundsException",
            "public int total() throws",
            "public int cell(int,int) throws IndexOutOfBoundsException IllegalArgumentException",
            "public long sample(int,int,int) throws IndexOutOfBoundsException IllegalArgumentException",
            "public int sign(int,int) throws IndexOutOfBoundsException",
            "public int at(int,int,int,int) throws IllegalArgumentException",
            "public int find(int) throws",
            "public boolean touch(int,int) throws IndexOutOfBoundsException",
            "public int lines() throws");

    private static int wrong = 0;

    private static void due(String what, boolean holds) {
        if (!holds) {
            wrong++;
            System.out.println("not as due: " + what);
        }
    }

    private static String told(Method method) {
        StringBuilder text = new StringBuilder();
        text.append(Modifier.toString(method.getModifiers())).append(' ').append(method.getReturnType().getName());
        text.append(' ').append(method.getName()).append('(');
        String comma = "";
        for (Class<?> type : method.getParameterTypes()) {
            text.append(comma).append(type.getName());
            comma = ",";
        }
        text.append(") throws");
        for (Class<?> type : method.getExceptionTypes()) {
            text.append(' ').append(type.getSimpleName());
        }
        return text.toString();
    }

    private static void lookAtMethods() {
        Set<String> seen = new TreeSet<>();
        Set<String> names = new TreeSet<>();
        for (Method method : CellProjection.class.getDeclaredMethods()) {
            if (Modifier.isPublic(method.getModifiers())) {
                seen.add(told(method));
                names.add(method.getName());
            }
        }
        due("methods " + seen, seen.equals(FACE));
        for (Method method : CellProjection.class.getDeclaredMethods()) {
            int how = method.getModifiers();
            due("private " + method, Modifier.isPublic(how) || Modifier.isPrivate(how));
            due("name of its own " + method, Modifier.isPublic(how) || !names.contains(method.getName()));
        }
    }

    public static void main(String[] args) {
        int how = CellProjection.class.getModifiers();
        due("public final class", how == (Modifier.PUBLIC | Modifier.FINAL));
        due("a class and nothing else", !CellProjection.class.isRecord() && !CellProjection.class.isEnum()
                && CellProjection.class.getTypeParameters().length == 0);
        due("extends nothing", CellProjection.class.getSuperclass() == Object.class);
        due("implements nothing", CellProjection.class.getInterfaces().length == 0);
        due("without a package", CellProjection.class.getPackageName().isEmpty());
        Constructor<?>[] constructors = CellProjection.class.getDeclaredConstructors();
        due("one constructor", constructors.length == 1 && constructors[0].getParameterCount() == 0
                && Modifier.isPublic(constructors[0].getModifiers())
                && constructors[0].getExceptionTypes().length == 0);
        lookAtMethods();
        for (Field field : CellProjection.class.getDeclaredFields()) {
            due("private " + field, Modifier.isPrivate(field.getModifiers()));
            due("static and final " + field,
                    !Modifier.isStatic(field.getModifiers()) || Modifier.isFinal(field.getModifiers()));
        }
        for (Class<?> inside : CellProjection.class.getDeclaredClasses()) {
            int kind = inside.getModifiers();
            due("inside " + inside, Modifier.isStatic(kind) && !Modifier.isPublic(kind) && !Modifier.isProtected(kind));
        }
        System.out.println(wrong == 0 ? "the face is as due" : wrong + " things are not as due");
        if (wrong != 0) {
            System.exit(1);
        }
    }
}
