import java.lang.reflect.Constructor;
import java.lang.reflect.Field;
import java.lang.reflect.Method;
import java.lang.reflect.Modifier;
import java.util.TreeSet;

/** The class has the document's face, and shows no other member. */
public final class FaceTest {
    private static final String METHODS = "begin/1 checkpoint/0 clearText/0 count/1 dropOut/1 dropRecords/0"
            + " fault/1 force/0 groupOf/2 pageOf/2 play/0 recordOf/2 restart/0 settle/1 stop/1 takeBack/1"
            + " type/1 undo/0 would/2 write/3 writeOut/1";
    private static final String FIELDS = "INVALID_ARGUMENT LIMIT_REACHED NOT_FOUND NOT_POSSIBLE";

    private static int wrong;

    public static void main(String[] args) {
        Class<?> face = SealedGroups.class;
        due("public", Modifier.isPublic(face.getModifiers()), true);
        due("final", Modifier.isFinal(face.getModifiers()), true);
        due("package", face.getPackageName(), "");
        due("methods", String.join(" ", shownMethods(face)), METHODS);
        due("fields", String.join(" ", shownFields(face)), FIELDS);
        due("constructors", face.getDeclaredConstructors().length, 1);
        for (Constructor<?> constructor : face.getDeclaredConstructors()) {
            due("constructor", constructor.getParameterCount(), 0);
            due("public constructor", Modifier.isPublic(constructor.getModifiers()), true);
        }
        for (Class<?> inside : face.getDeclaredClasses()) {
            due("static " + inside, Modifier.isStatic(inside.getModifiers()), true);
            due("hidden " + inside, Modifier.isPublic(inside.getModifiers()), false);
        }
        System.out.println(wrong == 0 ? "the face is as due" : wrong + " wrong");
        if (wrong != 0) {
            System.exit(1);
        }
    }

    private static void due(String what, Object got, Object want) {
        if (!got.equals(want)) {
            wrong++;
            System.out.println(what + ": " + got + ", due is " + want);
        }
    }

    private static TreeSet<String> shownMethods(Class<?> face) {
        TreeSet<String> shown = new TreeSet<>();
        for (Method method : face.getDeclaredMethods()) {
            if (!Modifier.isPrivate(method.getModifiers())) {
                shown.add(method.getName() + "/" + method.getParameterCount());
                due("public " + method, Modifier.isPublic(method.getModifiers()), true);
                due("returns int " + method, method.getReturnType() == int.class, true);
            } else {
                due("own name " + method, METHODS.matches("(.* )?" + method.getName() + "/.*"), false);
            }
        }
        return shown;
    }

    private static TreeSet<String> shownFields(Class<?> face) {
        TreeSet<String> shown = new TreeSet<>();
        for (Field field : face.getDeclaredFields()) {
            if (!Modifier.isPrivate(field.getModifiers())) {
                shown.add(field.getName());
            }
        }
        return shown;
    }
}
