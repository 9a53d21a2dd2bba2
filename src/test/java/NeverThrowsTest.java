import java.lang.reflect.Method;
import java.lang.reflect.Modifier;
import java.util.ArrayList;
import java.util.Comparator;
import java.util.List;
import java.util.Random;

/** Any call with any arguments in many states: it ends, throws nothing, and a twin answers alike. */
public final class NeverThrowsTest {
    private static final Due DUE = new Due();
    private static final int[] ODD = {-2147483648, -2147483647, -1000, -2, -1, 0, 1, 2, 3, 5, 6, 7, 8, 11, 12, 13, 20, 21, 31,
        32, 33, 59, 60, 61, 63, 64, 99, 100, 699, 700, 701, 2000000000, 2000000001, 2147483646, 2147483647};
    private static final String[] TALES = {"", "tale years 1 law 0 odds 0;", YearsTest.TALE,
        "tale years 12 law 1 odds 3;part charm 60 tires 9 stiff 60;part charm 60 tires 9;part charm 3 tires 0;"
            + "part charm 60 tires 1;part charm 50 tires 2 stiff 7;part charm 9 tires 3;fold 0 1;fold 1 2;fold 2 3;fold 3 4;"
            + "fold 4 5;fold 5 0;fold 0 2;fold 0 3;fold 1 3;fold 1 4;knife 0 at 11;knife 0 at 11;knife 1 at 3;knife 2 at 5;"
            + "knife 3 at 0;knife 4 at 10;knife 5 at 11;knife 5 at 2;"};

    public static void main(String[] args) throws ReflectiveOperationException {
        List<Method> methods = new ArrayList<>();
        for (Method m : UncutTale.class.getDeclaredMethods()) {
            if (Modifier.isPublic(m.getModifiers())) {
                methods.add(m);
            }
        }
        methods.sort(Comparator.comparing(Method::getName));
        for (int run = 0; run < 400; run++) {
            Random chance = new Random(run);
            UncutTale x = Due.told(TALES[run % TALES.length]);
            UncutTale twin = Due.told(TALES[run % TALES.length]);
            for (int call = 0; call < 400; call++) {
                Method m = methods.get(chance.nextInt(methods.size()));
                Object[] given = new Object[m.getParameterCount()];
                for (int i = 0; i < given.length; i++) {
                    int odd = chance.nextInt(3) == 0 ? ODD[chance.nextInt(ODD.length)] : chance.nextInt(4);
                    given[i] = m.getParameterTypes()[i] == long.class ? (Object) (long) odd : (Object) odd;
                }
                boolean wipes = m.getName().equals("tale") && chance.nextInt(4) != 0;
                if (!wipes) {
                    long answer = ((Number) m.invoke(x, given)).longValue();
                    DUE.is(m.getName() + " of a twin", ((Number) m.invoke(twin, given)).longValue(), answer);
                }
            }
        }
        DUE.end();
    }
}
