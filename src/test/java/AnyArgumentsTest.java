import java.lang.reflect.InvocationTargetException;
import java.lang.reflect.Method;
import java.lang.reflect.Modifier;
import java.util.ArrayList;
import java.util.Arrays;
import java.util.Comparator;
import java.util.List;
import java.util.Random;

// Whatever is given, nothing is thrown but what the document says; and no ton is lost or made on the way.
public final class AnyArgumentsTest extends Due {
    private static final int CITIES = 300, CALLS = 400;
    private static final int[] NUMBERS = {Integer.MIN_VALUE, Integer.MIN_VALUE + 1, -100000, -129, -128, -2, -1, 0, 0, 0, 1, 1, 2,
        3, 4, 5, 6, 7, 8, 9, 10, 11, 18, 19, 20, 24, 33, 34, 59, 60, 61, 89, 90, 98, 99, 100, 101, 127, 128, 200, 201, 239, 240,
        241, 300, 301, 4999, 5000, 9999, 10000, 99999, 100000, 100001, 9999999, 10000000, Integer.MAX_VALUE - 1, Integer.MAX_VALUE};

    public static void main(String[] args) throws IllegalAccessException {
        List<Method> face = new ArrayList<>();
        for (Method m : LowFall.class.getDeclaredMethods()) if (Modifier.isPublic(m.getModifiers())) face.add(m);
        face.sort(Comparator.comparing(Method::getName));
        says("VIII: NONE (-1): there is no such thing, or a number is not as said");
        for (int seed = 1; seed <= CITIES; seed++) meet(face, new Random(seed), seed % 2 == 0);
        end("any arguments");
    }

    private static void meet(List<Method> face, Random random, boolean small) throws IllegalAccessException {
        LowFall city = new LowFall();
        // A city full of things meets more than an empty one.
        if (random.nextInt(3) > 0) BusyCity.make(city);
        for (int i = 0; i < CALLS; i++) {
            Method m = face.get(random.nextInt(face.size()));
            // Else most runs would soon be begun anew.
            if (m.getName().equals("begin") && random.nextInt(20) > 0) continue;
            call(city, m, random, small);
        }
        due(city.count(1), (long) city.count(3) + city.count(5) + city.count(6) + city.count(7));
        due(city.count(2), (long) city.count(4) + city.count(8));
    }

    private static void call(LowFall city, Method m, Random random, boolean small) throws IllegalAccessException {
        Object[] given = new Object[m.getParameterCount()];
        for (int k = 0; k < given.length; k++) {
            Class<?> kind = m.getParameterTypes()[k];
            int number = small && random.nextInt(4) > 0 ? random.nextInt(10) : NUMBERS[random.nextInt(NUMBERS.length)];
            if (kind == boolean.class) given[k] = random.nextBoolean();
            else if (kind == long.class) given[k] = random.nextBoolean() ? number : random.nextLong();
            else given[k] = number;
        }
        try {
            m.invoke(city, given);
            due(1, 1);
        } catch (InvocationTargetException e) {
            boolean promised = Arrays.asList(m.getExceptionTypes()).contains(e.getCause().getClass());
            if (!promised) System.out.println(m.getName() + Arrays.toString(given) + " threw " + e.getCause());
            due(promised ? 1 : 0, 1);
        }
    }
}
