import java.lang.reflect.Constructor;
import java.lang.reflect.Field;
import java.lang.reflect.Method;
import java.lang.reflect.Modifier;
import java.util.Arrays;
import java.util.Set;
import java.util.TreeSet;

/** The public face is the document's, and no more; rules 1, 2 and 5 of LANGUAGE.md as far as reflection sees them. */
public final class FaceTest {
    private static final String[] METHODS = {
        "tape(1)", "stage(4)", "copy(1)", "read(2)", "move(3)", "salvage(1)", "scan(1)", "lose(1)", "damage(3)",
        "jam(2)", "fix(1)", "power(1)", "place(2)", "block(3)", "tapeTold(2)", "driveTold(2)", "told(1)", "fold(0)"
    };
    private static final String[] CONSTANTS = {
        "BAD", "NOTHING", "NO_DRIVE", "CUT", "JAM", "NO_ROOM", "DAMAGE", "HEAD", "DATUM", "TAIL", "VOID"
    };

    public static void main(String[] args) {
        constants();
        constructor();
        methods();
        fields();
        classesInside();
        Check.end();
    }

    private static void constants() {
        Check.part("constants");
        Check.due("BAD", TapeVault.BAD, -1);
        Check.due("NOTHING", TapeVault.NOTHING, -2);
        Check.due("NO_DRIVE", TapeVault.NO_DRIVE, -3);
        Check.due("CUT", TapeVault.CUT, -4);
        Check.due("JAM", TapeVault.JAM, -5);
        Check.due("NO_ROOM", TapeVault.NO_ROOM, -6);
        Check.due("DAMAGE", TapeVault.DAMAGE, -7);
        Check.due("HEAD", TapeVault.HEAD, 1);
        Check.due("DATUM", TapeVault.DATUM, 2);
        Check.due("TAIL", TapeVault.TAIL, 3);
        Check.due("VOID", TapeVault.VOID, 4);
    }

    private static void constructor() {
        Check.part("constructor");
        Constructor<?>[] all = TapeVault.class.getDeclaredConstructors();
        Check.due("constructors", all.length, 1);
        Check.due("parameters", all[0].getParameterCount(), 0);
        Check.that("it is public", Modifier.isPublic(all[0].getModifiers()));
        Check.that("the class is public and final",
            Modifier.isPublic(TapeVault.class.getModifiers()) && Modifier.isFinal(TapeVault.class.getModifiers()));
    }

    private static void methods() {
        Check.part("methods");
        Set<String> open = new TreeSet<>();
        Set<String> openNames = new TreeSet<>();
        for (Method method : TapeVault.class.getDeclaredMethods()) {
            if (!Modifier.isPrivate(method.getModifiers())) {
                open.add(method.getName() + "(" + method.getParameterCount() + ")");
                openNames.add(method.getName());
                Check.that(method + " is public", Modifier.isPublic(method.getModifiers()));
                Check.that(method + " is not static", !Modifier.isStatic(method.getModifiers()));
                Check.that(method + " answers an int", method.getReturnType() == int.class);
                for (Class<?> type : method.getParameterTypes()) {
                    Check.that(method + " takes ints", type == int.class);
                }
            }
        }
        Check.that("the methods are " + open, open.equals(new TreeSet<>(Arrays.asList(METHODS))));
        for (Method method : TapeVault.class.getDeclaredMethods()) {
            if (Modifier.isPrivate(method.getModifiers())) {
                Check.that(method + " has a name of its own", !openNames.contains(method.getName()));
            }
        }
    }

    private static void fields() {
        Check.part("fields");
        Set<String> open = new TreeSet<>();
        for (Field field : TapeVault.class.getDeclaredFields()) {
            if (!Modifier.isPrivate(field.getModifiers())) {
                open.add(field.getName());
                Check.that(field + " is public, static, final, an int", Modifier.isPublic(field.getModifiers())
                    && Modifier.isStatic(field.getModifiers()) && field.getType() == int.class);
            }
            Check.that(field + " is final, if static",
                !Modifier.isStatic(field.getModifiers()) || Modifier.isFinal(field.getModifiers()));
        }
        Check.that("the open fields are " + open, open.equals(new TreeSet<>(Arrays.asList(CONSTANTS))));
    }

    private static void classesInside() {
        Check.part("classes inside");
        Class<?>[] inside = TapeVault.class.getDeclaredClasses();
        Check.that("some twelve at most", inside.length < 12);
        for (Class<?> one : inside) {
            Check.that(one + " is static", Modifier.isStatic(one.getModifiers()));
            Check.that(one + " is not public or protected",
                !Modifier.isPublic(one.getModifiers()) && !Modifier.isProtected(one.getModifiers()));
            for (Field field : one.getDeclaredFields()) {
                Check.that(field + " is no static state", !Modifier.isStatic(field.getModifiers()));
            }
        }
    }
}
