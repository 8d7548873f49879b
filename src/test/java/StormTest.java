import java.lang.reflect.InvocationTargetException;
import java.lang.reflect.Method;
import java.lang.reflect.Modifier;
import java.util.ArrayList;
import java.util.Arrays;
import java.util.Comparator;
import java.util.List;
import java.util.Random;

/**
 * Any numbers in any state: a call answers, or throws one of its heading by a throw of the class's
 * own. The runs go on behind the 512th call, where answers are free, but where the language's
 * rule 7 still holds.
 */
public final class StormTest {
    private static final int OBJECTS = 300;
    private static final int CALLS = 2000;

    private static final int[] FAR = {
        Integer.MIN_VALUE, Integer.MIN_VALUE + 1, Integer.MAX_VALUE, Integer.MAX_VALUE - 1,
        -1000, -999, 999, 1000, 599, 600, 601, 1 << 16, 1 << 30, -2
    };

    private static int answered = 0;
    private static int refused = 0;
    private static int wrong = 0;

    public static void main(String[] args) throws IllegalAccessException {
        List<Method> face = face();
        for (int seed = 0; seed < OBJECTS && wrong < 20; seed++) {
            storm(face, new Random(seed));
        }
        if (answered < OBJECTS * 100 || refused < OBJECTS * 100) {
            wrong++;
            System.out.println("too few calls answer or are refused");
        }
        System.out.println(
                answered + " calls answered, " + refused + " refused, " + wrong + " wrong");
        if (wrong != 0) {
            System.exit(1);
        }
    }

    private static List<Method> face() {
        List<Method> all = new ArrayList<>();
        for (Method method : OnceNamed.class.getDeclaredMethods()) {
            if (Modifier.isPublic(method.getModifiers())) {
                all.add(method);
            }
        }
        all.sort(Comparator.comparing(Method::getName));
        return all;
    }

    private static void storm(List<Method> face, Random random) throws IllegalAccessException {
        OnceNamed x = new OnceNamed(anyNumber(random, 14));
        // Now and then a form is asked for, or most calls would find none.
        int calm = 3 + random.nextInt(20);
        for (int i = 0; i < CALLS; i++) {
            if (random.nextInt(calm) == 0) {
                x.build();
            }
            Method method = face.get(random.nextInt(face.size()));
            Object[] numbers = new Object[method.getParameterCount()];
            for (int a = 0; a < numbers.length; a++) {
                numbers[a] = anyNumber(random, 7);
            }
            call(x, method, numbers);
        }
    }

    private static int anyNumber(Random random, int small) {
        int choice = random.nextInt(24);
        if (choice == 0) {
            return random.nextInt();
        }
        if (choice == 1) {
            return FAR[random.nextInt(FAR.length)];
        }
        if (choice == 2) {
            return 100 * random.nextInt(6) + random.nextInt(9);
        }
        return random.nextInt(small) - 1;
    }

    private static void call(OnceNamed x, Method method, Object[] numbers)
            throws IllegalAccessException {
        try {
            method.invoke(x, numbers);
            answered++;
        } catch (InvocationTargetException e) {
            refused++;
            if (!isDue(method, e.getCause())) {
                wrong++;
                System.out.println(
                        method.getName() + Arrays.toString(numbers) + " threw " + e.getCause());
            }
        }
    }

    /** A division by 0 that went wrong by itself throws what is due, but with Java's own text. */
    private static boolean isDue(Method method, Throwable thrown) {
        return Arrays.asList(method.getExceptionTypes()).contains(thrown.getClass())
                && !"/ by zero".equals(thrown.getMessage());
    }
}
