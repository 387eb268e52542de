import java.lang.reflect.InvocationTargetException;
import java.lang.reflect.Method;
import java.lang.reflect.Modifier;

/** No call throws, for any numbers in any state, and numbers far out are BAD. */
public final class WildTest {
    private static final int[] WILD = {
        Integer.MIN_VALUE, Integer.MIN_VALUE + 1, -65536, -513, -101, -22, -21, -2, -1, 0, 1, 2, 3, 7, 8, 11, 12, 13, 20,
        21, 24, 40, 99, 500, 1000, 65536, Integer.MAX_VALUE - 1, Integer.MAX_VALUE
    };
    private static final String[] TEXTS = {
        "", "r1;", "r1;j0,1,0,20,1,0,0;j0,1,0,20,1,0,0;j0,1,0,20,1,0,0;",
        "b11,179,1,9,11;b0,0,0,1,0;k0,0;k11,1;d11,1;f11,1,9;h1,9;" + "j11,9,9,40,9,9,99;".repeat(8),
        "r6;" + "b5,179,1,9,11;".repeat(24) + "j0,9,9,0,9,9,0;".repeat(8), "b0,0", "\u00ff\u0080\u0000", ";;;", ",;1"
    };

    private final Due due = new Due();
    private long seed = 512;

    public static void main(String[] args) throws IllegalAccessException {
        WildTest test = new WildTest();
        test.farOut();
        for (int i = 0; i < 400; i++) {
            test.run(TEXTS[i % TEXTS.length]);
        }
        test.due.close();
    }

    private int next(int bound) {
        seed = seed * 6364136223846793005L + 1442695040888963407L;
        return (int) ((seed >>> 33) % bound);
    }

    private Object argument(Class<?> type) {
        int number = WILD[next(WILD.length)];
        if (next(2) == 0) {
            number = next(8) - 1;
        }
        return type == long.class ? (Object) Long.valueOf((long) number << next(40)) : Integer.valueOf(number);
    }

    private void run(String letters) throws IllegalAccessException {
        ThreeCards x = new ThreeCards();
        Due.put(x, letters);
        x.lay();
        Method[] methods = ThreeCards.class.getDeclaredMethods();
        for (int call = 0; call < 512; call++) {
            Method method = methods[next(methods.length)];
            if (Modifier.isPublic(method.getModifiers())) {
                Object[] arguments = new Object[method.getParameterCount()];
                for (int i = 0; i < arguments.length; i++) {
                    arguments[i] = argument(method.getParameterTypes()[i]);
                }
                due.isTrue(method.getName() + java.util.Arrays.toString(arguments), answers(method, x, arguments));
            }
        }
    }

    private static boolean answers(Method method, ThreeCards x, Object[] arguments) throws IllegalAccessException {
        try {
            method.invoke(x, arguments);
            return true;
        } catch (InvocationTargetException thrown) {
            System.out.println(thrown.getCause());
            return false;
        }
    }

    private void farOut() {
        ThreeCards x = Due.laid(TEXTS[3]);
        for (int far : new int[] {Integer.MIN_VALUE, Integer.MAX_VALUE}) {
            due.is("write", x.write(far, 0), -1);
            due.is("blow", x.blow(far, 0), -1);
            due.is("blow", x.blow(0, far), -1);
            due.is("sum", x.sum(far, far, far), -1);
            due.is("lead", x.lead(far, 0), -100001);
            due.is("lead", x.lead(0, far), -100001);
            due.is("close", x.close(far, far), -1);
            due.is("margin", x.margin(0, far, 0), -100001);
            due.is("margin", x.margin(0, 0, far), -100001);
            due.is("margin", x.margin(far, 0, 0), -100001);
            due.is("card", x.card(far, far), -100001);
            due.is("points", x.points(far, far, far), -1);
            due.is("end", x.end(0, 0, 1, far, 0), -1);
            due.is("others", x.others(0, far), -1);
            due.is("men", x.men(far), -1);
            due.is("coins", x.coins(0, 0, 1, 2, far, 0), -1);
            due.is("coins", x.coins(0, 0, 1, 2, 0, far), -1);
            due.is("seats", x.seats(far), -1);
            due.is("delay", x.delay(far, 0), -1);
            due.is("delay", x.delay(0, far), -1);
            due.is("buttons", x.buttons(far, 1, 0, 0), -1);
            due.is("buttons", x.buttons(0, far, 0, 0), -1);
            due.is("buttons", x.buttons(0, 1, far, 0), -1);
            due.is("tell", x.tell(0, 0, far), -22);
            due.is("tell", x.tell(far, 0, 0), -22);
            due.is("tell", x.tell(0, far, 0), -22);
            due.is("same", x.same(far, 0, 0), -1);
            due.is("lean", x.lean(far, 0), -100001);
            due.is("unlike", x.unlike(far), -1);
            due.is("added", x.added(0, 0, 0, 0, far), -1);
            due.is("tenths", x.tenths(0, 0, far), -1);
            due.is("open", x.open(far, 0, 0), -1);
            due.is("open", x.open(1, far, 0), -1);
            due.is("hidden", x.hidden(far, 0, 0), -1);
            due.is("hidden", x.hidden(1, far, 0), -1);
            due.is("count", x.count(far), -1);
        }
    }
}
