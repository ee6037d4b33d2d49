import java.lang.reflect.InvocationTargetException;
import java.lang.reflect.Method;
import java.util.Arrays;
import java.util.Comparator;
import java.util.NoSuchElementException;

/** Every call with every number at and beyond an edge, in several states: as the Model, and no throw. */
public final class EdgesTest {
    private static final int[] ONE = {
        Integer.MIN_VALUE, Integer.MIN_VALUE + 1, -1000000, -256, -9, -8, -2, -1, 0, 1, 2, 3, 4, 5, 6, 7, 8, 9, 10, 11, 12,
        13, 14, 16, 39, 40, 41, 59, 60, 61, 98, 99, 100, 199, 200, 201, 240, 241, 256, 998, 999, 1000, 9999, 1 << 28,
        1 << 29, 1 << 30, Integer.MAX_VALUE - 1, Integer.MAX_VALUE,
    };
    private static final int[] THREE = {
        Integer.MIN_VALUE, -9, -8, -1, 0, 1, 2, 3, 4, 5, 7, 8, 9, 15, 16, 17, 1 << 28, 1 << 29, Integer.MAX_VALUE,
    };

    /** An object is used for at most 512 calls; some 20 bring it to its state. */
    private static final int CALLS = 480;

    private HubTree x;
    private Model m;

    private EdgesTest() {}

    public static void main(String[] args) throws ReflectiveOperationException {
        EdgesTest test = new EdgesTest();
        Method[] calls = HubTree.class.getDeclaredMethods();
        Arrays.sort(calls, Comparator.comparing(Method::getName));
        for (int state = 0; state < 6; state++) {
            for (Method call : calls) {
                boolean open = java.lang.reflect.Modifier.isPublic(call.getModifiers());
                if (open && !call.getName().equals("feed")) {
                    test.all(state, call);
                }
            }
        }
        Checks.finish();
    }

    /** Brings both to one of a few states. */
    private void come(int state) {
        x = new HubTree();
        m = new Model();
        feed("p080;t9;e12;z1;o0");
        x.text(1);
        m.text(1);
        if (state == 0) {
            return;
        }
        feed(state == 5 ? "d;d;d;d;d;d;d;d" : "sd1r1y1n4;dn4o1u3s2;dn4u1;de1;du9;do1s0b6;ds2");
        x.text(0);
        m.text(0);
        if (state == 1 || state == 5) {
            return;
        }
        int[][] plugs = {{0, 8, 0}, {1, 0, 3}, {2, 8, 3}, {3, 1, 0}, {4, 1, 1}};
        for (int[] p : plugs) {
            x.plug(p[0], p[1], p[2]);
            m.plug(p[0], p[1], p[2]);
        }
        int ticks = state == 2 ? 5 : 40;
        x.tick(ticks);
        m.tick(ticks);
        if (state == 4) {
            for (int d = 4; d >= 0; d--) {
                x.sleep(d);
                m.sleep(d);
            }
            x.image();
            m.image();
            feed("sn1");
        }
    }

    private void feed(String text) {
        int[] n = new int[5];
        for (int i = 0; i < text.length(); i++) {
            if (i > 0 && i % 20 == 0) {
                feed(n);
                n = new int[5];
            }
            n[i % 20 / 4] |= text.charAt(i) << 24 - i % 4 * 8;
        }
        feed(n);
    }

    private void feed(int[] n) {
        Checks.due("feed", m.feed(n), x.feed(n[0], n[1], n[2], n[3], n[4]));
    }

    private void all(int state, Method call) throws ReflectiveOperationException {
        Class<?>[] kinds = call.getParameterTypes();
        Method twin = Model.class.getDeclaredMethod(call.getName(), kinds);
        int[] edges = kinds.length < 3 ? ONE : THREE;
        int combinations = 1;
        for (int i = 0; i < kinds.length; i++) {
            combinations *= edges.length;
        }
        for (int k = 0; k < combinations; k++) {
            if (k % CALLS == 0) {
                come(state);
            }
            Object[] args = new Object[kinds.length];
            int rest = k;
            for (int i = 0; i < kinds.length; i++) {
                int edge = edges[rest % edges.length];
                rest /= edges.length;
                if (kinds[i] == long.class) {
                    args[i] = (long) edge;
                } else {
                    args[i] = edge;
                }
            }
            String told = "state " + state + ", " + call.getName() + Arrays.toString(args);
            Checks.due(told, answer(twin, m, args), answer(call, x, args));
        }
    }

    private static long answer(Method call, Object on, Object[] args) throws ReflectiveOperationException {
        try {
            Object answer = call.invoke(on, args);
            return answer instanceof Boolean b ? b ? 1 : 0 : (Integer) answer;
        } catch (InvocationTargetException e) {
            if (e.getCause() instanceof NoSuchElementException && call.getName().equals("device")) {
                return -99;
            }
            throw e;
        }
    }
}
