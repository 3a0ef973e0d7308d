import java.lang.reflect.Constructor;
import java.lang.reflect.Field;
import java.lang.reflect.Method;
import java.lang.reflect.Modifier;
import java.util.ArrayList;
import java.util.Arrays;
import java.util.HashSet;
import java.util.List;
import java.util.Set;
import java.util.TreeSet;

/** The public face: the constants, the constructor and each method with its throws clause, and nothing else. */
public final class FaceTest {
    private static final String IOOBE = "IndexOutOfBoundsException";
    private static final String IAE = "IllegalArgumentException";
    private static final String ISE = "IllegalStateException";

    private static final List<String> METHODS = List.of(
            "int append(int,int,int,int,int) " + ISE, "void truncate(int) " + IAE, "int load()",
            "int errorCode()", "int errorPosition()", "int property(int) " + IAE,
            "int period(int,int) " + IOOBE + " " + IAE, "int side(int,int) " + IOOBE + " " + IAE,
            "int logged(int,int) " + IOOBE + " " + IAE, "int flagIn(int) " + IOOBE,
            "int delayLeft(int) " + IOOBE, "int shown(int) " + IOOBE, "int pace(int) " + IOOBE,
            "int lasts(int,int) " + IOOBE + " " + IAE, "int ahead()", "int longest(int) " + IOOBE,
            "double meanThink(int) " + IOOBE, "float share(int) " + IOOBE,
            "int leftIn(int,int) " + IOOBE + " " + IAE, "int overIn()", "boolean canSeal()", "int sealIn()",
            "int ends(int,int) " + IAE, "int endsAfter(int,int) " + IAE, "int movesIn(int,int,int) " + IAE,
            "int gained(int) " + IOOBE, "int finished(int) " + IOOBE, "int spent(int,int) " + IOOBE,
            "int slowest()", "int within(int,int) " + IOOBE + " " + IAE,
            "int paceFor(int,int) " + IOOBE + " " + IAE, "int needs(int,int,int) " + IOOBE + " " + IAE,
            "int aheadAfter(int,int,int) " + IAE, "int start() " + ISE, "int tick(int) " + IAE,
            "int move() " + ISE, "int pause() " + ISE, "int proceed() " + ISE, "int seal() " + ISE,
            "int open() " + ISE, "int claim(int) " + IOOBE + " " + ISE, "int resign(int) " + IOOBE + " " + ISE,
            "int give(int,int) " + IOOBE + " " + IAE + " " + ISE, "boolean setBare(int,boolean) " + IOOBE,
            "boolean setClaims(boolean)", "int setPeriod(int,int,int) " + IOOBE + " " + IAE,
            "int swap() " + ISE, "int keep(int) " + IOOBE, "int restore(int) " + IOOBE + " " + ISE,
            "int undo() " + ISE, "int undoCount()", "int writeClock()", "int writeLog()", "int writePeriods()",
            "int outputByte(int) NoSuchElementException");

    private FaceTest() {
    }

    public static void main(String[] args) {
        Check.same("NONE", GameClock.NONE, -1);
        Check.same("PARSE_ERROR", GameClock.PARSE_ERROR, -4);
        Check.same("the class is public and final", Modifier.toString(GameClock.class.getModifiers()), "public final");
        methods();
        fieldsAndConstructors();
        namesOfPrivateMethods();
        Check.end("FaceTest");
    }

    private static void methods() {
        Set<String> seen = new TreeSet<>();
        for (Method method : GameClock.class.getDeclaredMethods()) {
            if (!Modifier.isPrivate(method.getModifiers())) {
                seen.add(Modifier.toString(method.getModifiers()) + " " + signature(method));
            }
        }
        Set<String> due = new TreeSet<>();
        for (String method : METHODS) {
            due.add("public " + method.trim());
        }
        Check.same("methods", String.join("\n  ", seen), String.join("\n  ", due));
    }

    private static String signature(Method method) {
        List<String> kinds = new ArrayList<>();
        for (Class<?> kind : method.getParameterTypes()) {
            kinds.add(kind.getSimpleName());
        }
        StringBuilder text = new StringBuilder(method.getReturnType().getSimpleName());
        text.append(' ').append(method.getName()).append('(').append(String.join(",", kinds)).append(')');
        for (Class<?> thrown : method.getExceptionTypes()) {
            text.append(' ').append(thrown.getSimpleName());
        }
        return text.toString();
    }

    private static void fieldsAndConstructors() {
        Set<String> seen = new TreeSet<>();
        for (Field field : GameClock.class.getDeclaredFields()) {
            if (!Modifier.isPrivate(field.getModifiers())) {
                seen.add(field.toString());
            }
        }
        Check.same("fields", seen.toString(),
                "[public static final int GameClock.NONE, public static final int GameClock.PARSE_ERROR]");
        Constructor<?>[] made = GameClock.class.getDeclaredConstructors();
        Check.same("constructors", Arrays.toString(made), "[public GameClock()]");
    }

    private static void namesOfPrivateMethods() {
        Set<String> open = new HashSet<>();
        for (String method : METHODS) {
            open.add(method.substring(method.indexOf(' ') + 1, method.indexOf('(')));
        }
        for (Class<?> inside : GameClock.class.getDeclaredClasses()) {
            for (Method method : inside.getDeclaredMethods()) {
                Check.same(inside.getName() + "." + method.getName() + " bears a public name",
                        open.contains(method.getName()), false);
            }
        }
        for (Method method : GameClock.class.getDeclaredMethods()) {
            boolean twice = Modifier.isPrivate(method.getModifiers()) && open.contains(method.getName());
            Check.same(method.getName() + " is private with a public name", twice, false);
        }
    }
}
