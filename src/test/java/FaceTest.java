import java.lang.reflect.Constructor;
import java.lang.reflect.Field;
import java.lang.reflect.Method;
import java.lang.reflect.Modifier;
import java.util.ArrayList;
import java.util.Arrays;
import java.util.List;
import java.util.Set;
import java.util.TreeSet;

/** The public face is the document's, and nothing beside it is open. */
public final class FaceTest {
    private static final String[] FACE = {
        "int addService(int) IllegalArgumentException IllegalStateException",
        "int addCall(int,int,int,int,int) IndexOutOfBoundsException IllegalArgumentException IllegalStateException",
        "int removeCall(int) IndexOutOfBoundsException IllegalStateException",
        "int set(int,int,int) IndexOutOfBoundsException IllegalArgumentException",
        "int setLimit(int,int) IndexOutOfBoundsException IllegalArgumentException",
        "int services()",
        "int calls()",
        "int service(int,int) IndexOutOfBoundsException IllegalArgumentException",
        "int call(int,int) IndexOutOfBoundsException IllegalArgumentException",
        "boolean depends(int,int) IndexOutOfBoundsException",
        "int order(int)",
        "int level(int) IndexOutOfBoundsException",
        "boolean request(int,int) IndexOutOfBoundsException IllegalArgumentException",
        "int result(int) IllegalArgumentException IllegalStateException",
        "int failure(int,int) IllegalArgumentException",
        "int attempt(int,int) IllegalArgumentException",
        "int leastBudget(int) IndexOutOfBoundsException",
        "int worst(int) IndexOutOfBoundsException",
        "int unsound()",
        "int tighten()",
        "int fail(int) IndexOutOfBoundsException IllegalStateException",
        "int repair(int) IndexOutOfBoundsException IllegalStateException",
        "int steps(int) IllegalArgumentException",
        "int down()",
        "int spread(int) IndexOutOfBoundsException IllegalStateException",
        "int calm(int) IndexOutOfBoundsException IllegalStateException",
        "int recoveryTime(int) IllegalArgumentException",
        "int recoveryStart(int,int) IllegalArgumentException IndexOutOfBoundsException",
        "int bestCost()",
        "int bestOrder(int)",
        "boolean failsBy(int,int) IndexOutOfBoundsException IllegalArgumentException",
        "int cuts(int,int) IndexOutOfBoundsException IllegalArgumentException",
        "int cut(int,int,int) IndexOutOfBoundsException IllegalArgumentException",
        "int availability(int) IndexOutOfBoundsException",
        "int weakest(int) IndexOutOfBoundsException",
        "int append(int) IllegalArgumentException IllegalStateException",
        "int clearText()",
        "int execute()",
        "int undo() IllegalStateException",
        "long digest()",
    };

    public static void main(String[] args) {
        Class<?> face = ServiceBudgets.class;
        Expect.same("the modifiers of the class", face.getModifiers(), Modifier.PUBLIC | Modifier.FINAL);
        Expect.same("NONE", ServiceBudgets.NONE, -1);
        methods(face);
        fields(face);
        Constructor<?>[] constructors = face.getDeclaredConstructors();
        Expect.same("the number of constructors", constructors.length, 1);
        Expect.same("the modifiers of the constructor", constructors[0].getModifiers(), Modifier.PUBLIC);
        Expect.same("the parameters of the constructor", constructors[0].getParameterCount(), 0);
        Expect.finish();
    }

    private static void methods(Class<?> face) {
        Set<String> due = new TreeSet<>(Arrays.asList(FACE));
        Set<String> names = new TreeSet<>();
        List<Method> hidden = new ArrayList<>();
        for (Method method : face.getDeclaredMethods()) {
            if (Modifier.isPrivate(method.getModifiers())) {
                hidden.add(method);
                continue;
            }
            names.add(method.getName());
            Expect.yes("the document has " + sign(method), due.remove(sign(method)));
            Expect.same("the modifiers of " + method.getName(), method.getModifiers(), Modifier.PUBLIC);
        }
        Expect.yes("none is absent: " + due, due.isEmpty());
        for (Method method : hidden) {
            Expect.no("the name " + method.getName() + " is the face's", names.contains(method.getName()));
        }
        for (Class<?> inside : face.getDeclaredClasses()) {
            Expect.yes(inside + " is static", Modifier.isStatic(inside.getModifiers()));
            for (Method method : inside.getDeclaredMethods()) {
                Expect.no("the name " + method.getName() + " is the face's", names.contains(method.getName()));
            }
        }
    }

    private static void fields(Class<?> face) {
        for (Field field : face.getDeclaredFields()) {
            boolean open = !Modifier.isPrivate(field.getModifiers());
            Expect.yes(field.getName() + " is private or NONE", !open || field.getName().equals("NONE"));
            if (open) {
                Expect.same("the modifiers of NONE", field.getModifiers(),
                        Modifier.PUBLIC | Modifier.STATIC | Modifier.FINAL);
            }
        }
    }

    private static String sign(Method method) {
        StringBuilder sign = new StringBuilder(method.getReturnType().getSimpleName());
        sign.append(' ').append(method.getName()).append('(');
        String comma = "";
        for (Class<?> type : method.getParameterTypes()) {
            sign.append(comma).append(type.getSimpleName());
            comma = ",";
        }
        sign.append(')');
        for (Class<?> type : method.getExceptionTypes()) {
            sign.append(' ').append(type.getSimpleName());
        }
        return sign.toString();
    }
}
