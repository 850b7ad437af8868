import java.lang.reflect.InvocationTargetException;
import java.lang.reflect.Method;
import java.lang.reflect.Modifier;
import java.util.ArrayList;
import java.util.Comparator;
import java.util.List;

/** Any arguments in any state, far beyond 512 calls: no call throws. */
public final class WildTest {
    private static final int[] ODD = {Integer.MIN_VALUE, Integer.MAX_VALUE, -2, -1, 0, 1, 2, 15, 16, 19, 20, 39, 40,
        60, 61, 99, 100, 120, 199, 200, 299, 300, 479, 480, 481, 999, 1000, 9999, 99999};
    private static long seed = 5;

    public static void main(String[] args) throws IllegalAccessException {
        List<Method> methods = new ArrayList<>();
        for (Method m : PleasureGarden.class.getDeclaredMethods()) {
            if (Modifier.isPublic(m.getModifiers())) {
                methods.add(m);
            }
        }
        methods.sort(Comparator.comparing(Method::getName));
        Check check = new Check();
        for (int run = 0; run < 20; run++) {
            PleasureGarden x = run % 2 == 0 ? new PleasureGarden() : furnished();
            for (int i = 0; i < 5000; i++) {
                Method m = methods.get(below(methods.size()));
                if (!m.getName().equals("close") || below(20) == 0) {
                    check.due(m.getName() + " throws", call(x, m), 0);
                }
            }
        }
        check.finish();
    }

    private static int below(int bound) {
        seed = seed * 6364136223846793005L + 1442695040888963407L;
        return (int) ((seed >>> 33) % bound);
    }

    private static PleasureGarden furnished() {
        PleasureGarden x = Check.garden(5, 0, 5, 0, 5, 1, 5, 1);
        x.walk(0, 1, 1);
        x.walk(1, 2, 1);
        x.walk(0, 3, 2);
        for (int i = 0; i < 20; i++) {
            x.box(i % 4, 20);
            x.lamp(5);
        }
        Check.price(x, 0, 0, "c*99999/(t-m)*p");
        Check.price(x, 1, 0, "s*99999*p/(r-g)");
        Check.price(x, 2, 0, "(0-65536*32768)/(0-1)*n");
        return x;
    }

    private static int call(PleasureGarden x, Method m) throws IllegalAccessException {
        Object[] a = new Object[m.getParameterCount()];
        for (int i = 0; i < a.length; i++) {
            a[i] = below(4) == 0 ? ODD[below(ODD.length)] : below(below(3) == 0 ? 100 : 20);
        }
        try {
            m.invoke(x, a);
            return 0;
        } catch (InvocationTargetException e) {
            System.out.println(m.getName() + " threw " + e.getCause());
            return 1;
        }
    }
}
