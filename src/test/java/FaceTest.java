import java.lang.reflect.Constructor;
import java.lang.reflect.Field;
import java.lang.reflect.Method;
import java.lang.reflect.Modifier;
import java.util.ArrayList;
import java.util.Arrays;
import java.util.Collections;
import java.util.List;

/** The public face: exactly the constants, constructor and methods of the document. */
public class FaceTest {
    private static final String FACE = """
            int append(int, int, int, int, int) throws IllegalStateException
            int load()
            int play()
            int errorCode()
            int errorPosition()
            int capsule(int) throws IllegalArgumentException
            int size(int) throws IllegalArgumentException
            int chute(int, int) throws IndexOutOfBoundsException, IllegalArgumentException
            int line(int, int) throws IndexOutOfBoundsException
            int targetAt(int) throws IllegalArgumentException
            int windAt(int) throws IllegalArgumentException
            int spot(int, int) throws IndexOutOfBoundsException, IllegalArgumentException
            int event(int, int) throws NoSuchElementException, IllegalArgumentException
            int account(int) throws IllegalArgumentException
            boolean asks()
            int why(int) throws IndexOutOfBoundsException
            int whyReserve()
            int loadOn(int) throws IndexOutOfBoundsException
            int wouldTear(int) throws IndexOutOfBoundsException
            float share()
            double meanSpeed()
            int landIn()
            int landAt() throws NoSuchElementException
            int landSpeed()
            int landResult()
            int failsIn(int) throws IndexOutOfBoundsException
            int reserveIn()
            int hottest()
            int bestSlip(int) throws IndexOutOfBoundsException
            int reachable()
            int tick(int) throws IllegalArgumentException
            int fallTo(int) throws IllegalArgumentException
            int open(int) throws IndexOutOfBoundsException
            int openReserve()
            int cut(int) throws IndexOutOfBoundsException
            int steer(int) throws IllegalArgumentException
            int setTarget(int, int) throws IllegalArgumentException
            int jam(int, boolean) throws IndexOutOfBoundsException
            int write()
            int output(int) throws IndexOutOfBoundsException
            int undo() throws IllegalStateException
            int save(int) throws IndexOutOfBoundsException
            int restore(int) throws IndexOutOfBoundsException, IllegalStateException
            """;

    public static void main(String[] arguments) {
        Check check = new Check("FaceTest");
        Class<LayeredChute> face = LayeredChute.class;
        check.equal("the class is public and final", "public final", Modifier.toString(face.getModifiers()));
        check.equal("NONE", -1, LayeredChute.NONE);

        List<String> due = new ArrayList<>(Arrays.asList(FACE.strip().split("\n")));
        Collections.sort(due);
        List<String> seen = new ArrayList<>();
        List<String> names = new ArrayList<>();
        for (Method method : face.getDeclaredMethods()) {
            if (Modifier.isPublic(method.getModifiers())) {
                seen.add(signature(method));
                names.add(method.getName());
            }
        }
        Collections.sort(seen);
        check.equal("the public methods", String.join("\n", due), String.join("\n", seen));

        for (Method method : face.getDeclaredMethods()) {
            if (!Modifier.isPublic(method.getModifiers())) {
                check.equal(method + " is private", true, Modifier.isPrivate(method.getModifiers()));
                check.equal(method + " has a name of its own", false, names.contains(method.getName()));
            }
        }
        for (Constructor<?> constructor : face.getDeclaredConstructors()) {
            check.equal("the constructor", "public LayeredChute()", constructor.toString());
        }
        for (Field field : face.getDeclaredFields()) {
            String modifiers = Modifier.toString(field.getModifiers());
            if (field.getName().equals("NONE")) {
                check.equal("NONE is a constant", "public static final", modifiers);
            } else {
                check.equal(field + " is private", true, Modifier.isPrivate(field.getModifiers()));
            }
        }
        for (Class<?> inside : face.getDeclaredClasses()) {
            check.equal(inside + " is private", true, Modifier.isPrivate(inside.getModifiers()));
        }
        check.end();
    }

    static String signature(Method method) {
        StringBuilder text = new StringBuilder();
        text.append(method.getReturnType().getSimpleName()).append(' ').append(method.getName());
        text.append('(').append(names(method.getParameterTypes())).append(')');
        if (method.getExceptionTypes().length > 0) {
            text.append(" throws ").append(names(method.getExceptionTypes()));
        }
        return text.toString();
    }

    private static String names(Class<?>[] types) {
        List<String> names = new ArrayList<>();
        for (Class<?> type : types) {
            names.add(type.getSimpleName());
        }
        return String.join(", ", names);
    }
}
