import java.lang.reflect.Constructor;
import java.lang.reflect.Field;
import java.lang.reflect.Method;
import java.lang.reflect.Modifier;
import java.util.Arrays;
import java.util.Set;
import java.util.TreeSet;
import java.util.stream.Collectors;

/** The face: just the members that the document tells, with their types and the exceptions that they name. */
public final class FaceTest {
    private static final String INDEX = "IndexOutOfBoundsException";
    private static final String ARGUMENT = "IllegalArgumentException";
    private static final String STATE = "IllegalStateException";
    private static final String REFUSED = "UnsupportedOperationException";
    private static final String NONE = "NoSuchElementException";
    private static final String[] DUE = {
        "int clear()", "int addParty(int, int) " + ARGUMENT + " " + STATE, "int setRate(int, int) " + INDEX + " " + ARGUMENT,
        "int setTier(int, int) " + INDEX + " " + ARGUMENT, "long party(int, int) " + INDEX + " " + ARGUMENT,
        "int claim(int, int, int) " + INDEX + " " + ARGUMENT + " " + STATE,
        "int award(int, int) " + INDEX + " " + ARGUMENT + " " + REFUSED,
        "int dismiss(int, int) " + INDEX + " " + ARGUMENT + " " + REFUSED,
        "int withdraw(int, int) " + INDEX + " " + ARGUMENT + " " + REFUSED,
        "int claimed(int, int) " + INDEX + " " + ARGUMENT, "int reason() " + NONE, "long inDispute()",
        "long fees(int) " + INDEX, "long wouldBe(int) " + ARGUMENT, "long side(int, int) " + INDEX + " " + ARGUMENT,
        "long call(int) " + ARGUMENT, "long pay(int, int) " + INDEX + " " + ARGUMENT,
        "long payFor(int, int) " + INDEX + " " + ARGUMENT + " " + STATE, "long takeFees()", "long giveBack() " + REFUSED,
        "long owed(int, int) " + INDEX, "long debt(int, int) " + INDEX + " " + ARGUMENT,
        "long settle(int, int, int) " + INDEX + " " + ARGUMENT + " " + REFUSED,
        "long offset(int, int) " + INDEX + " " + ARGUMENT + " " + REFUSED, "int ring(int) " + NONE, "long clearRings()",
        "long net(int) " + INDEX, "int growsTo(int, int) " + INDEX + " " + ARGUMENT + " " + NONE,
        "long pass(int) " + ARGUMENT + " " + STATE, "int goOn() " + STATE, "long account(int) " + ARGUMENT,
        "long entry(int, boolean) " + NONE, "double quota(int) " + INDEX + " ArithmeticException",
        "int append(char) " + ARGUMENT + " " + STATE, "int read() " + ARGUMENT + " " + STATE,
        "int errorPosition() " + NONE, "int undo() " + NONE, "int save()", "int restore() " + STATE};

    public static void main(String[] args) {
        Class<?> face = ArbitrationFees.class;
        Check.due("public and final", face.getModifiers(), Modifier.PUBLIC | Modifier.FINAL);
        Set<String> got = new TreeSet<>();
        Set<String> names = new TreeSet<>();
        for (Method method : face.getDeclaredMethods()) {
            if (!Modifier.isPrivate(method.getModifiers())) {
                got.add(describe(method));
                names.add(method.getName());
            }
        }
        Set<String> due = new TreeSet<>(Arrays.asList(DUE));
        if (!got.equals(due)) {
            Check.fail("the face is " + got + ", due is " + due);
        }
        namesStandOnce(face, names);
        for (Class<?> inside : face.getDeclaredClasses()) {
            Check.due("static: " + inside, Modifier.isStatic(inside.getModifiers()) ? 1 : 0, 1);
            Check.due("not public: " + inside, inside.getModifiers() & (Modifier.PUBLIC | Modifier.PROTECTED), 0);
            namesStandOnce(inside, names);
        }
        for (Field field : face.getDeclaredFields()) {
            Check.due("private: " + field, Modifier.isPrivate(field.getModifiers()) ? 1 : 0, 1);
        }
        Check.due("constructors", face.getDeclaredConstructors().length, 1);
        for (Constructor<?> constructor : face.getDeclaredConstructors()) {
            Check.due("public: " + constructor, constructor.getModifiers(), Modifier.PUBLIC);
            Check.due("without parameters: " + constructor, constructor.getParameterCount(), 0);
        }
        Check.end();
    }

    private static String describe(Method method) {
        String types = Arrays.stream(method.getParameterTypes()).map(Class::getName).collect(Collectors.joining(", "));
        String exceptions = Arrays.stream(method.getExceptionTypes()).map(type -> " " + type.getSimpleName())
                .collect(Collectors.joining());
        String answer = Modifier.isStatic(method.getModifiers()) ? "static " : "";
        return answer + method.getReturnType().getName() + " " + method.getName() + "(" + types + ")" + exceptions;
    }

    /** No method that is not of the face bears the name of one that is. */
    private static void namesStandOnce(Class<?> type, Set<String> names) {
        for (Method method : type.getDeclaredMethods()) {
            boolean isOfFace = type == ArbitrationFees.class && Modifier.isPublic(method.getModifiers());
            if (!isOfFace && names.contains(method.getName())) {
                Check.fail("a private method bears a public name: " + method);
            }
        }
    }
}
