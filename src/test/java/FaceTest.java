import java.lang.reflect.Constructor;
import java.lang.reflect.Field;
import java.lang.reflect.Method;
import java.lang.reflect.Modifier;
import java.util.Arrays;
import java.util.Set;
import java.util.TreeSet;

/** The class's face is the document's, with no member beside it that others can see. */
public final class FaceTest {
    private static final String[] METHODS = {
        "int write(int,long)", "int wipe()", "int fault()", "int lay()", "int blow(int,int)", "int sum(int,int,int)",
        "int lead(int,int)", "int close(int,int)", "int margin(int,int,int)", "int card(int,int)",
        "int points(int,int,int)", "int end(int,int,int,int,int)", "int others(int,int)", "int men(int)",
        "long coins(int,int,int,int,int,int)", "int seats(int)", "int delay(int,int)", "int buttons(int,int,int,int)",
        "int tell(int,int,int)", "int same(int,int,int)", "int lean(int,int)", "int unlike(int)",
        "int added(int,int,int,int,int)", "int tenths(int,int,int)", "int open(int,int,int)", "int hidden(int,int,int)",
        "int keep()", "int back()", "int count(int)"
    };

    public static void main(String[] args) {
        Class<?> face = ThreeCards.class;
        Due due = new Due();
        due.is("public final", Modifier.toString(face.getModifiers()).equals("public final") ? 1 : 0, 1);
        Set<String> methods = new TreeSet<>();
        Set<String> publicNames = new TreeSet<>();
        for (Method method : face.getDeclaredMethods()) {
            if (!Modifier.isPrivate(method.getModifiers()) && !method.isSynthetic()) {
                methods.add(signature(method));
                publicNames.add(method.getName());
                due.is(method.getName() + " is public and no static", method.getModifiers(), Modifier.PUBLIC);
            }
        }
        due.isTrue("methods " + methods, methods.equals(new TreeSet<>(Arrays.asList(METHODS))));
        for (Method method : face.getDeclaredMethods()) {
            boolean takesName = Modifier.isPrivate(method.getModifiers()) && publicNames.contains(method.getName());
            due.isTrue("no private method " + method.getName(), !takesName);
        }
        Set<String> fields = new TreeSet<>();
        for (Field field : face.getDeclaredFields()) {
            if (!Modifier.isPrivate(field.getModifiers()) && !field.isSynthetic()) {
                fields.add(Modifier.toString(field.getModifiers()) + " " + field.getType() + " " + field.getName());
            }
        }
        String constant = "public static final int ";
        due.isTrue("constants " + fields, fields.equals(
            Set.of(constant + "BAD", constant + "NO", constant + "FULL", constant + "NONE")));
        due.is("one constructor", face.getDeclaredConstructors().length, 1);
        for (Constructor<?> constructor : face.getDeclaredConstructors()) {
            due.is("public constructor", constructor.getModifiers(), Modifier.PUBLIC);
            due.is("constructor without parameters", constructor.getParameterCount(), 0);
        }
        for (Class<?> inside : face.getDeclaredClasses()) {
            boolean fits = Modifier.isStatic(inside.getModifiers()) && !Modifier.isPublic(inside.getModifiers())
                && !Modifier.isProtected(inside.getModifiers());
            due.isTrue(inside.getSimpleName() + " is static and not public", fits);
        }
        due.is("BAD", ThreeCards.BAD, -1);
        due.is("NO", ThreeCards.NO, -2);
        due.is("FULL", ThreeCards.FULL, -3);
        due.is("NONE", ThreeCards.NONE, -4);
        due.close();
    }

    private static String signature(Method method) {
        StringBuilder words = new StringBuilder();
        words.append(method.getReturnType().getName()).append(' ').append(method.getName()).append('(');
        String gap = "";
        for (Class<?> type : method.getParameterTypes()) {
            words.append(gap).append(type.getName());
            gap = ",";
        }
        return words.append(')').toString();
    }
}
