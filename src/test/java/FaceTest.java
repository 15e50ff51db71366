import java.lang.reflect.Constructor;
import java.lang.reflect.Field;
import java.lang.reflect.Method;
import java.lang.reflect.Modifier;
import java.util.Arrays;
import java.util.TreeSet;

/** The public face: what the document names, and nothing else. */
public final class FaceTest {
    private static final String FACE = "account(int) append(char) areNeighbours(int,int) asking(int) bring(int) character(int)"
        + " clocks(int,int,int) commands() eaters() fairness() faultPosition() holder(int) hungriest(int) isSure()"
        + " join(int,int,int) ladle(int,boolean) leave() line() manner(int,int) mealsIn(int) meanWait() pass(int) reason(int)"
        + " restore() ring() rounds() save() seatOf(int,int) stuck() stuckAgain() stuckIn() take(int) undo() waiter(int)"
        + " waitsFor(int)";
    private static final String NOT_INT = "areNeighbours:boolean character:char fairness:float isSure:boolean meanWait:double";

    public static void main(String[] args) {
        Script.same("the class", Modifier.toString(SoupTable.class.getModifiers()), "public final");
        constructors();
        methods();
        for (Field field : SoupTable.class.getDeclaredFields()) {
            Script.same("the field " + field.getName() + " is private", Modifier.isPrivate(field.getModifiers()), true);
            boolean isShared = Modifier.isStatic(field.getModifiers()) && !Modifier.isFinal(field.getModifiers());
            Script.same("the field " + field.getName() + " is no static state", isShared, false);
        }
        for (Class<?> inside : SoupTable.class.getDeclaredClasses()) {
            boolean isHidden = !Modifier.isPublic(inside.getModifiers()) && !Modifier.isProtected(inside.getModifiers());
            Script.same("the class " + inside.getName(), isHidden && Modifier.isStatic(inside.getModifiers()), true);
        }
        Script.end();
    }

    private static void constructors() {
        Constructor<?>[] constructors = SoupTable.class.getDeclaredConstructors();
        Script.same("the constructors", constructors.length, 1);
        Script.same("its parameters", constructors[0].getParameterCount(), 0);
        Script.same("it is public", Modifier.isPublic(constructors[0].getModifiers()), true);
    }

    private static void methods() {
        TreeSet<String> face = new TreeSet<>();
        TreeSet<String> names = new TreeSet<>();
        TreeSet<String> notInt = new TreeSet<>();
        for (Method method : SoupTable.class.getDeclaredMethods()) {
            if (Modifier.isPublic(method.getModifiers())) {
                String types = Arrays.toString(method.getParameterTypes()).replaceAll("[\\[\\] ]", "");
                face.add(method.getName() + "(" + types + ")");
                names.add(method.getName());
                if (method.getReturnType() != int.class) {
                    notInt.add(method.getName() + ":" + method.getReturnType());
                }
            }
        }
        Script.same("the public methods", String.join(" ", face), FACE);
        Script.same("the methods that answer no int", String.join(" ", notInt), NOT_INT);
        for (Method method : SoupTable.class.getDeclaredMethods()) {
            boolean isHidden = Modifier.isPrivate(method.getModifiers()) && !names.contains(method.getName());
            Script.same("the method " + method.getName(), Modifier.isPublic(method.getModifiers()) || isHidden, true);
        }
    }
}
