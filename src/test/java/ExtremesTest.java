import java.lang.reflect.InvocationTargetException;
import java.lang.reflect.Method;
import java.util.ArrayList;
import java.util.Arrays;
import java.util.Comparator;
import java.util.List;
import java.util.Random;

/**
 * No call ever throws, for any arguments in any state: in a new object, in a full one, on the last day,
 * and past the 512 calls for which answers are promised.
 */
public final class ExtremesTest {
    private static final Due DUE = new Due();
    private static final int[] ENDS = {
        Integer.MIN_VALUE, Integer.MIN_VALUE + 1, -1501, -10, -1, 0, 1, 2, 3, 4, 5, 6, 7, 8, 9, 10, 11, 12, 13, 19, 20,
        39, 40, 50, 51, 79, 80, 99, 100, 200, 201, 255, 256, 999, 1000, 1493, 1499, 1500, 1501, 9999, 10000,
        Integer.MAX_VALUE - 10, Integer.MAX_VALUE - 1, Integer.MAX_VALUE
    };

    private static List<Method> face() {
        List<Method> all = new ArrayList<>();
        for (Method method : DoorStars.class.getDeclaredMethods()) {
            if (java.lang.reflect.Modifier.isPublic(method.getModifiers())) all.add(method);
        }
        all.sort(Comparator.comparing(Method::getName));
        return all;
    }

    private static void call(DoorStars x, Method method, Object... arguments) throws IllegalAccessException {
        String text = method.getName() + Arrays.toString(arguments);
        try {
            method.invoke(x, arguments);
            DUE.holds(text, true);
        } catch (InvocationTargetException thrown) {
            DUE.holds(text + " threw " + thrown.getCause(), false);
        }
    }

    private static void wild(DoorStars x, int calls, long seed, int ends) throws IllegalAccessException {
        Random random = new Random(seed);
        List<Method> face = face();
        for (int i = 0; i < calls; i++) {
            Method method = face.get(random.nextInt(face.size()));
            Object[] arguments = new Object[method.getParameterCount()];
            for (int a = 0; a < arguments.length; a++) {
                boolean truth = method.getParameterTypes()[a] == boolean.class;
                if (truth) arguments[a] = random.nextBoolean();
                else arguments[a] = random.nextInt(3) < ends ? ENDS[random.nextInt(ENDS.length)] : random.nextInt(6);
            }
            call(x, method, arguments);
        }
    }

    /** Everything that has a room is filled to its greatest number. */
    private static DoorStars full() {
        DoorStars x = new DoorStars();
        for (int g = 0; g < 5; g++) x.most(g, 200);
        for (int i = 0; i < 40; i++) x.code(i % 5, 50, 0);
        for (int i = 0; i < 39; i++) x.turn(i, i + 1, 700);
        for (int k = 0; k < 4; k++) x.base(k, 50);
        for (int i = 0; i < 20; i++) {
            x.kitchen(i % 4, i % 2, 999, i % 10, 255);
            for (int s = 0; s < 8; s++) x.shut(i, 100 * s, 100 * s + 50);
            x.complaint(i % 2, 0, 1500, i % 8);
            x.hard(i, i % 2 == 0);
            x.show(i, 5);
        }
        for (int i = 0; i < 10; i++) x.table(0, 10, 20, 30, 40);
        for (int i = 0; i < 80; i++) {
            x.look(i % 2 == 0 ? 0 : 1, i / 2 % 5, 0);
            for (int c = 0; c < 40; c++) for (int n = 0; n < 11; n++) x.find(c, 9);
        }
        for (int s = 0; s < 6; s++) {
            x.began(s, s < 3 ? s + 1 : 12);
            for (int m = 0; m < 12; m++) x.cases(s, m, 999);
        }
        return x;
    }

    private static void greatest() {
        DoorStars x = full();
        DUE.is("the greatest score", x.score(0, 0), 1000);
        x.days(1493);
        int risk = 50 + 19 + 24;
        DUE.is("risk", x.risk(19, 0), risk);
        long cost = risk * 1500L;
        for (int i = 0; i < 50; i++) cost += cost / 10;
        DUE.is("the greatest delay without a look", x.delay(19, 1500), cost);
        x.kin(0, 2, true);
        for (int k = 2; k < 20; k++) for (int i = 0; i < 5; i++) x.kin(i, k % 10, true);
        DUE.is("all six left out", x.rounds(3), 12 * cost);
        DUE.is("part of each", x.part(0, 0, 1), 10);
        x.days(7);
        DUE.is("count(0)", x.count(0), 1500);
    }

    public static void main(String[] args) throws IllegalAccessException {
        for (Method method : face()) {
            int size = method.getParameterCount();
            boolean truth = size > 0 && method.getParameterTypes()[size - 1] == boolean.class;
            for (int end : ENDS) {
                Object[] arguments = new Object[size];
                Arrays.fill(arguments, end);
                if (truth) arguments[size - 1] = end % 2 == 0;
                call(new DoorStars(), method, arguments);
            }
        }
        for (int seed = 0; seed < 60; seed++) wild(new DoorStars(), 3000, seed, seed % 4);
        for (int seed = 0; seed < 12; seed++) wild(full(), 1500, seed, seed % 4);
        greatest();
        DUE.finish();
    }
}
