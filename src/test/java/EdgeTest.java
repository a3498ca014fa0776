import java.lang.reflect.InvocationTargetException;
import java.lang.reflect.Method;
import java.lang.reflect.Modifier;
import java.util.Arrays;

/** No call throws, whatever it is given and whatever the state. */
public final class EdgeTest {
    private static final int[] EDGES = {0, 1, 2, 5, 6, 99, 100, -1, Integer.MIN_VALUE, Integer.MAX_VALUE};
    private static final String[] HOUSES = {"", "g0003;g0003;", "g0003;g1903;g2205;g3609;g4004;g5030;c2;m01;",
        "g3111;g1711;g0200;", "g0003;o0;"};

    private static int calls = 0;

    public static void main(String[] args) throws Exception {
        for (String house : HOUSES) {
            for (Method m : PouredForLeaving.class.getDeclaredMethods()) {
                if (Modifier.isPublic(m.getModifiers())) everyEdge(house, m);
            }
        }
        System.out.println("EdgeTest: " + calls + " calls, none throws");
    }

    private static void everyEdge(String house, Method m) throws Exception {
        int many = m.getParameterCount();
        int ways = 1;
        for (int i = 0; i < many; i++) ways *= EDGES.length;
        PouredForLeaving x = null;
        for (int way = 0; way < ways; way++) {
            if (way % 100 == 0) x = of(house);
            Object[] given = new Object[many];
            int rest = way;
            for (int i = 0; i < many; i++) {
                given[i] = EDGES[rest % EDGES.length];
                rest /= EDGES.length;
            }
            call(x, m, given);
        }
    }

    private static PouredForLeaving of(String house) {
        PouredForLeaving x = new PouredForLeaving();
        for (char letter : house.toCharArray()) x.feed(letter);
        x.house();
        return x;
    }

    private static void call(PouredForLeaving x, Method m, Object[] given) throws IllegalAccessException {
        calls++;
        try {
            m.invoke(x, given);
        } catch (InvocationTargetException thrown) {
            System.out.println("EdgeTest: " + m.getName() + Arrays.toString(given) + " threw " + thrown.getCause());
            System.exit(1);
        }
    }
}
