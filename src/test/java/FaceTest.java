import java.lang.reflect.Constructor;
import java.lang.reflect.Field;
import java.lang.reflect.Method;
import java.lang.reflect.Modifier;
import java.util.Set;
import java.util.TreeSet;

/** "The public face": the class has just what it says, with the exceptions in its order, and nothing else that is open. */
public final class FaceTest {
    private static final Check check = new Check();

    private static final String INDEX = "java.lang.IndexOutOfBoundsException";
    private static final String ARGUMENT = "java.lang.IllegalArgumentException";
    private static final String STATE = "java.lang.IllegalStateException";

    private static final String[] METHODS = {
        "int CandleDip.melt(int) throws " + ARGUMENT + "," + STATE,
        "int CandleDip.setFire(int) throws " + ARGUMENT,
        "int CandleDip.vat(int) throws " + INDEX,
        "int CandleDip.addFrame(int,int) throws " + ARGUMENT + "," + STATE,
        "int CandleDip.hang(int,int) throws " + INDEX + "," + ARGUMENT + "," + STATE,
        "int CandleDip.layAside(int) throws " + INDEX + "," + STATE,
        "int CandleDip.dip(int) throws " + INDEX + "," + STATE,
        "int CandleDip.cutOff(int) throws " + INDEX + "," + STATE,
        "int CandleDip.frame(int,int) throws " + INDEX,
        "int CandleDip.hook(int) throws " + INDEX,
        "int CandleDip.store(int,int) throws " + INDEX,
        "int CandleDip.addOrder(int,int,int,int) throws " + ARGUMENT + "," + STATE,
        "int CandleDip.fill(int) throws " + INDEX + "," + STATE,
        "int CandleDip.order(int,int) throws " + INDEX,
        "int CandleDip.pass(int) throws " + ARGUMENT,
        "int CandleDip.count(int) throws " + INDEX,
        "int CandleDip.would(int,int) throws " + INDEX + "," + ARGUMENT + "," + STATE,
        "int CandleDip.dipsTo(int,int,int) throws " + INDEX + "," + ARGUMENT + "," + STATE,
        "int CandleDip.bestRest(int,int) throws " + INDEX + "," + ARGUMENT + "," + STATE,
        "int CandleDip.advise()",
        "int CandleDip.possible()",
        "double CandleDip.mean()",
        "long CandleDip.digest()"};

    public static void main(String[] args) {
        theClass();
        theMethods();
        nothingElseIsOpen();
        check.end();
    }

    /** The names of the methods of the face. */
    static Set<String> names() {
        Set<String> names = new TreeSet<>();
        for (String method : METHODS) {
            names.add(method.substring(method.indexOf('.') + 1, method.indexOf('(')));
        }
        return names;
    }

    /** "public final class CandleDip", "public CandleDip()". */
    private static void theClass() {
        check.due("face: the class", "public final", () -> Modifier.toString(CandleDip.class.getModifiers()));
        check.due("face: what it extends", Object.class, CandleDip.class::getSuperclass);
        check.due("face: interfaces", 0, () -> CandleDip.class.getInterfaces().length);
        Constructor<?>[] constructors = CandleDip.class.getDeclaredConstructors();
        check.due("face: constructors", 1, () -> constructors.length);
        check.due("face: the constructor", "public CandleDip()", () -> constructors[0].toString());
    }

    /** Each method of the face, and no other public one. */
    private static void theMethods() {
        Set<String> due = new TreeSet<>();
        for (String method : METHODS) {
            due.add("public " + method);
        }
        Set<String> got = new TreeSet<>();
        for (Method method : CandleDip.class.getDeclaredMethods()) {
            if (Modifier.isPublic(method.getModifiers())) {
                got.add(method.toString());
            }
        }
        check.due("face: public methods", due, () -> got);
    }

    /** Rule 1 of LANGUAGE.md: all other members are private, and no private method bears the name of a public one. */
    private static void nothingElseIsOpen() {
        Set<String> names = names();
        for (Method method : CandleDip.class.getDeclaredMethods()) {
            if (!Modifier.isPublic(method.getModifiers()) && !method.isSynthetic()) {
                check.due("face: " + method, true, () -> Modifier.isPrivate(method.getModifiers()));
                check.due("face: name of " + method, false, () -> names.contains(method.getName()));
            }
        }
        for (Field field : CandleDip.class.getDeclaredFields()) {
            check.due("face: " + field, true, () -> Modifier.isPrivate(field.getModifiers()));
        }
        for (Class<?> inside : CandleDip.class.getDeclaredClasses()) {
            int modifiers = inside.getModifiers();
            check.due("face: " + inside, true, () -> Modifier.isStatic(modifiers) && !Modifier.isPublic(modifiers)
                && !Modifier.isProtected(modifiers));
        }
    }
}
