import java.lang.reflect.Constructor;
import java.lang.reflect.Field;
import java.lang.reflect.Method;
import java.lang.reflect.Modifier;
import java.util.Arrays;
import java.util.TreeSet;

/** The document's face, its constants, and rule 1 of LANGUAGE.md. */
public final class FaceTest {
    private static final String INDEX = "IndexOutOfBoundsException", ARGUMENT = "IllegalArgumentException",
            STATE = "IllegalStateException";

    private static final String[] FACE = {
        "int makeAuthor(int,int) " + INDEX + " " + ARGUMENT,
        "int makeBook(int,int,int) " + INDEX + " " + ARGUMENT + " " + STATE,
        "boolean find(int,int,int) " + INDEX + " " + ARGUMENT,
        "int books(int,int) " + INDEX + " " + STATE,
        "void setName(int,int,int,int) " + INDEX + " " + ARGUMENT + " " + STATE,
        "void setReference(int,int,int,int) " + INDEX + " " + ARGUMENT + " " + STATE,
        "int remove(int,int,int) " + INDEX + " " + ARGUMENT + " " + STATE,
        "int name(int,int,int) " + INDEX + " " + ARGUMENT + " " + STATE,
        "int reference(int,int,int) " + INDEX + " " + ARGUMENT + " " + STATE,
        "int known(int) " + INDEX,
        "int dirty(int) " + INDEX,
        "int flush(int) " + INDEX + " " + STATE,
        "int clear(int) " + INDEX,
        "int rows(int) " + ARGUMENT,
        "int rowName(int,int) " + ARGUMENT + " " + INDEX,
        "int rowReference(int,int) " + ARGUMENT + " " + INDEX,
        "int rowVersion(int,int) " + ARGUMENT + " " + INDEX,
        "int writes()",
        "int write(int) " + INDEX,
        "int written(int) " + INDEX,
    };

    private static final String[] CONSTANTS = {
        "AUTHOR 0", "BOOK 1", "DELETE 2", "INSERT 0", "NONE -1", "UPDATE 1",
    };

    public static void main(String[] args) throws IllegalAccessException {
        Class<?> type = ObjectMapper.class;
        Check.same("the class", Modifier.toString(type.getModifiers()), "public final");
        methods(type);
        constants(type);
        constructors(type);
        classesInside(type);
        Check.end();
    }

    private static void methods(Class<?> type) {
        TreeSet<String> publicNames = new TreeSet<>();
        TreeSet<String> privateNames = new TreeSet<>();
        TreeSet<String> face = new TreeSet<>();
        for (Method method : type.getDeclaredMethods()) {
            if (method.isSynthetic()) {
                continue;
            }
            if (Modifier.isPublic(method.getModifiers())) {
                publicNames.add(method.getName());
                face.add(written(method));
            } else {
                privateNames.add(method.getName());
                Check.same(method + " is private", Modifier.isPrivate(method.getModifiers()), true);
            }
        }
        Check.same("the public methods", face.toString(), new TreeSet<>(Arrays.asList(FACE)).toString());
        privateNames.retainAll(publicNames);
        Check.same("private methods with names of public ones", privateNames.toString(), "[]");
    }

    private static String written(Method method) {
        StringBuilder text = new StringBuilder();
        text.append(method.getReturnType()).append(' ').append(method.getName()).append('(');
        for (int i = 0; i < method.getParameterCount(); i++) {
            text.append(i == 0 ? "" : ",").append(method.getParameterTypes()[i]);
        }
        text.append(')');
        for (Class<?> exception : method.getExceptionTypes()) {
            text.append(' ').append(exception.getSimpleName());
        }
        return text.toString();
    }

    private static void constants(Class<?> type) throws IllegalAccessException {
        TreeSet<String> found = new TreeSet<>();
        for (Field field : type.getDeclaredFields()) {
            int modifiers = field.getModifiers();
            if (Modifier.isPublic(modifiers)) {
                Check.same(field.getName(), Modifier.toString(modifiers), "public static final");
                found.add(field.getName() + " " + field.getInt(null));
            } else {
                Check.same(field.getName() + " is private", Modifier.isPrivate(modifiers), true);
            }
        }
        Check.same("the constants", found.toString(), new TreeSet<>(Arrays.asList(CONSTANTS)).toString());
    }

    private static void constructors(Class<?> type) {
        Constructor<?>[] constructors = type.getDeclaredConstructors();
        Check.same("the number of constructors", constructors.length, 1);
        Check.same("the constructor's parameters", constructors[0].getParameterCount(), 0);
        Check.same("the constructor", Modifier.toString(constructors[0].getModifiers()), "public");
    }

    private static void classesInside(Class<?> type) {
        for (Class<?> inside : type.getDeclaredClasses()) {
            int modifiers = inside.getModifiers();
            Check.same(inside + " is static", Modifier.isStatic(modifiers), true);
            Check.same(inside + " is hidden", Modifier.isPublic(modifiers) || Modifier.isProtected(modifiers), false);
        }
    }
}
