import java.lang.reflect.Constructor;
import java.lang.reflect.Field;
import java.lang.reflect.Method;
import java.lang.reflect.Modifier;
import java.util.Arrays;
import java.util.HashSet;
import java.util.Set;
import java.util.TreeSet;

/** The class has the document's face and no other member that is seen from outside. */
public final class FaceTest {
    private static final Checks CHECKS = new Checks("FaceTest");
    private static final String I = "IndexOutOfBoundsException";
    private static final String A = "IllegalArgumentException";
    private static final String S = "IllegalStateException";
    private static final String U = "UnsupportedOperationException";
    private static final String N = "NoSuchElementException";
    private static final String C = "ArithmeticException";
    private static final String[] FACE = {
        "int append char " + S, "int colour int " + U, "int part int " + U, "int family " + A + " " + U,
        "int program " + A + " " + U, "int faultPosition", "int mount int " + U, "int load int int int " + U,
        "int empty int " + U, "int pause int " + U, "int run int int " + U, "int order int int int int " + U,
        "int callOff int " + U, "int set int int " + U, "int purge int int " + I,
        "int minutes int int " + I + " " + A + " " + S, "int best int " + A, "int bestAgain int " + A,
        "int bestColour int int " + A + " " + N, "int familyOf int int " + I + " " + A, "int pieces int int " + I,
        "int families int " + I, "int dryer int int " + I + " " + A, "int stock int int int " + I + " " + A,
        "int made int int " + I + " " + A, "int orderOf int int " + I + " " + A, "int shots int " + I + " " + N,
        "char letter int " + I, "int due int " + A, "int reason int boolean " + A + " " + N, "float scrap " + C,
        "double lateness " + C, "int account int " + A, "int undo " + S, "int save", "int restore " + S,
    };

    public static void main(String[] args) {
        CHECKS.due("the face", new TreeSet<>(Arrays.asList(FACE)), FaceTest::visibleMethods);
        CHECKS.due("public and final", Modifier.PUBLIC | Modifier.FINAL, () -> MouldFloor.class.getModifiers());
        Constructor<?>[] constructors = MouldFloor.class.getDeclaredConstructors();
        CHECKS.due("one constructor", 1, () -> constructors.length);
        CHECKS.due("it is public", Modifier.PUBLIC, () -> constructors[0].getModifiers());
        CHECKS.due("it takes nothing", 0, () -> constructors[0].getParameterCount());
        for (Field field : MouldFloor.class.getDeclaredFields()) {
            CHECKS.due("private: " + field, true, () -> Modifier.isPrivate(field.getModifiers()));
        }
        classesInside();
        CHECKS.end();
    }

    private static Set<String> visibleMethods() {
        Set<String> told = new TreeSet<>();
        for (Method method : MouldFloor.class.getDeclaredMethods()) {
            if (!Modifier.isPrivate(method.getModifiers())) {
                told.add(toldOf(method));
            }
        }
        return told;
    }

    private static String toldOf(Method method) {
        StringBuilder told = new StringBuilder(method.getReturnType() + " " + method.getName());
        for (Class<?> type : method.getParameterTypes()) {
            told.append(' ').append(type);
        }
        for (Class<?> type : method.getExceptionTypes()) {
            told.append(' ').append(type.getSimpleName());
        }
        return told.toString();
    }

    private static void classesInside() {
        Set<String> names = new HashSet<>();
        for (String line : FACE) {
            names.add(line.split(" ")[1]);
        }
        ownNames(MouldFloor.class, names);
        Class<?>[] inside = MouldFloor.class.getDeclaredClasses();
        CHECKS.due("at most some twelve classes", true, () -> inside.length <= 12);
        for (Class<?> type : inside) {
            CHECKS.due("static: " + type, true, () -> Modifier.isStatic(type.getModifiers()));
            CHECKS.due("not public: " + type, false, () -> Modifier.isPublic(type.getModifiers()));
            ownNames(type, names);
            fewFields(type);
        }
        fewFields(MouldFloor.class);
    }

    /** No method that is not of the face bears the name of one that is. */
    private static void ownNames(Class<?> type, Set<String> names) {
        for (Method method : type.getDeclaredMethods()) {
            if (!Modifier.isPublic(method.getModifiers())) {
                CHECKS.due("a name of its own: " + method, false, () -> names.contains(method.getName()));
            }
        }
    }

    private static void fewFields(Class<?> type) {
        int count = 0;
        for (Field field : type.getDeclaredFields()) {
            count += Modifier.isStatic(field.getModifiers()) ? 0 : 1;
        }
        int fields = count;
        CHECKS.due("at most some twenty fields: " + type, true, () -> fields <= 20);
    }
}
