import java.lang.reflect.Constructor;
import java.lang.reflect.Field;
import java.lang.reflect.Member;
import java.lang.reflect.Method;
import java.lang.reflect.Modifier;
import java.util.Arrays;
import java.util.HashSet;
import java.util.Set;
import java.util.TreeSet;

/** The face of ExamHalls: what the document lists is public, with the same types and values, and nothing else. */
public final class FaceTest {
    private static final String[] METHODS = {
        "set(int,int)", "paper(int,int,int)", "pupil(int,int,boolean)", "read()", "change(int,int,int,boolean)",
        "leave(int)", "hall(int,int,int)", "open(int,boolean)", "pupilOf(int,int)", "paperOf(int,int)",
        "sitting(int,int,int)", "hallOf(int,int)", "count(int)", "at(int,int,int)", "ifStart(int,int,int)",
        "bestStart(int)", "bestHalls(int)", "leastRooms()", "put(long)", "wipe()", "fault()", "undo()", "save(int)",
        "restore(int)"};

    private FaceTest() {
    }

    public static void main(String[] args) throws IllegalAccessException {
        Class<?> face = ExamHalls.class;
        Due.isTrue("public and final", face.getModifiers() == (Modifier.PUBLIC | Modifier.FINAL));
        Constructor<?>[] constructors = face.getDeclaredConstructors();
        Due.is("constructors", constructors.length, 1);
        Due.is("constructor's parameters", constructors[0].getParameterCount(), 0);
        Due.isTrue("public constructor", Modifier.isPublic(constructors[0].getModifiers()));
        methods(face);
        constants(face);
        classesInside(face);
        Due.end();
    }

    private static void methods(Class<?> face) {
        Set<String> found = new TreeSet<>();
        Set<String> names = new HashSet<>();
        for (Method method : face.getDeclaredMethods()) {
            if (isOpenToOthers(method)) {
                String types = Arrays.toString(method.getParameterTypes()).replaceAll("[\\[\\] ]", "");
                found.add(method.getName() + "(" + types + ")");
                names.add(method.getName());
                Due.isTrue(method + " is public, answers an int and is no more",
                        method.getModifiers() == Modifier.PUBLIC && method.getReturnType() == int.class);
            }
        }
        Due.isTrue("methods: " + found, found.equals(new TreeSet<>(Arrays.asList(METHODS))));
        for (Method method : face.getDeclaredMethods()) {
            Due.isTrue(method + " has a name of its own", isOpenToOthers(method) || !names.contains(method.getName()));
        }
    }

    private static void constants(Class<?> face) throws IllegalAccessException {
        String[] names = {"NO_SUCH", "BAD_VALUE", "BAD_TEXT", "TOO_MANY", "NOT_POSSIBLE", "NONE", "SPREAD", "ROOMS",
            "GAP"};
        int[] values = {-1, -2, -3, -4, -5, -6, 0, 1, 2};
        Set<String> found = new TreeSet<>();
        for (Field field : face.getDeclaredFields()) {
            if (isOpenToOthers(field)) {
                found.add(field.getName());
                int at = Arrays.asList(names).indexOf(field.getName());
                Due.isTrue(field + " is a constant", field.getType() == int.class
                        && field.getModifiers() == (Modifier.PUBLIC | Modifier.STATIC | Modifier.FINAL));
                Due.is(field.getName(), field.getInt(null), at < 0 ? 0 : values[at]);
            }
        }
        Due.isTrue("constants: " + found, found.equals(new TreeSet<>(Arrays.asList(names))));
    }

    private static void classesInside(Class<?> face) {
        for (Class<?> inside : face.getDeclaredClasses()) {
            int modifiers = inside.getModifiers();
            Due.isTrue(inside + " is static, and for the file alone", Modifier.isStatic(modifiers)
                    && !Modifier.isPublic(modifiers) && !Modifier.isProtected(modifiers));
        }
    }

    private static boolean isOpenToOthers(Member member) {
        return !member.isSynthetic() && !Modifier.isPrivate(member.getModifiers());
    }
}
