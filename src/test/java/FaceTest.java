import java.lang.reflect.Constructor;
import java.lang.reflect.Field;
import java.lang.reflect.Method;
import java.lang.reflect.Modifier;
import java.util.Arrays;
import java.util.Set;
import java.util.TreeSet;

/** The public face is the document's and no more (rule 1 of the language). */
public final class FaceTest {
    private static final String FACE = "int type(int,int) int wipe(int) int undo(int) int fault(int) int car(int,int) "
        + "int coming(int,int) int speed(int) int event(int,int,int) int back() int read(int) int at(int,int,int) "
        + "int waits(int,int) int over(int) int sum() int crowd(int,int) int first(int) int carried(int) int idle() "
        + "int left() int hang(int,int) int pace(int,int) int cheap(int,int) int spare(int) int seen(int,int,int) "
        + "int forget() int never() int was(int,int) int ask(int) long chance(int,int,int) int years(int,int,int) "
        + "int sheet(int,int,int) int lose(int) int put(int,int,int,int) int get(int,int,int) "
        + "int copy(int,int,int,int,int) int write(int,int) int count(int) long digest()";
    private static final Set<String> CONSTANTS = Set.of("NONE", "BAD", "NOT", "FULL");

    public static void main(String[] args) {
        Due due = new Due("FaceTest");
        Set<String> want = new TreeSet<>(Arrays.asList(FACE.split("(?<=\\)) ")));
        Set<String> got = new TreeSet<>();
        Set<String> open = new TreeSet<>();
        for (Method m : CableCars.class.getDeclaredMethods()) {
            if (Modifier.isPublic(m.getModifiers())) {
                String parameters = Arrays.toString(m.getParameterTypes()).replaceAll("[\\[\\] ]", "");
                got.add(m.getReturnType() + " " + m.getName() + "(" + parameters + ")");
                open.add(m.getName());
                due.holds(m.getName() + " is not static", !Modifier.isStatic(m.getModifiers()));
            } else {
                due.holds(m.getName() + " is private", Modifier.isPrivate(m.getModifiers()));
            }
        }
        due.holds("methods are " + got + ", due are " + want, got.equals(want));
        for (Method m : CableCars.class.getDeclaredMethods()) {
            due.holds(m.getName() + " bears no public name", Modifier.isPublic(m.getModifiers()) || !open.contains(m.getName()));
        }
        for (Field f : CableCars.class.getDeclaredFields()) {
            boolean constant = CONSTANTS.contains(f.getName());
            due.holds(f.getName() + " is as visible as told",
                constant ? f.getModifiers() == (Modifier.PUBLIC | Modifier.STATIC | Modifier.FINAL)
                    : Modifier.isPrivate(f.getModifiers()));
            due.holds(f.getName() + " is final if static", !Modifier.isStatic(f.getModifiers()) || Modifier.isFinal(f.getModifiers()));
        }
        Constructor<?>[] constructors = CableCars.class.getDeclaredConstructors();
        due.holds("one public constructor without parameters", constructors.length == 1
            && constructors[0].getParameterCount() == 0 && Modifier.isPublic(constructors[0].getModifiers()));
        due.holds("public and final", CableCars.class.getModifiers() == (Modifier.PUBLIC | Modifier.FINAL));
        for (Class<?> c : CableCars.class.getDeclaredClasses()) {
            due.holds(c + " is static", Modifier.isStatic(c.getModifiers()));
            due.holds(c + " is not public", !Modifier.isPublic(c.getModifiers()) && !Modifier.isProtected(c.getModifiers()));
            for (Method m : c.getDeclaredMethods()) {
                due.holds(m + " bears no public name", !open.contains(m.getName()));
            }
        }
        due.end();
    }
}
