import java.lang.reflect.InvocationTargetException;
import java.lang.reflect.Method;
import java.lang.reflect.Modifier;
import java.util.ArrayList;
import java.util.Comparator;
import java.util.List;
import java.util.Random;

/** No call throws, whatever its numbers, in whatever state: of random calls alone, 512 a run. */
public final class WildTest {
    private static final int[] ODD = {0, 1, 2, 3, 4, 5, 6, 9, 10, 11, 12, 13, 19, 20, 21, 40, 41, 49,
        50, 51, 52, 59, 60, 61, 99, 100, 120, 121, 143, 144, 400, 500, 719, 720, 721, 1013, 1439,
        1440, 1500, 1999, 2000, 9999, 1000000, 1000001, Integer.MAX_VALUE, -1, -2, -5, -40, -60,
        -61, -500, -9999, -100000, Integer.MIN_VALUE, Integer.MIN_VALUE + 1};

    public static void main(String[] args) throws Exception {
        Due due = new Due();
        List<Method> face = new ArrayList<>();
        for (Method m : SlackRace.class.getDeclaredMethods()) {
            if (Modifier.isPublic(m.getModifiers())) {
                face.add(m);
            }
        }
        // their order is not told by the machine, and the same calls are to come each time
        face.sort(Comparator.comparing(Method::getName));
        for (int seed = 0; seed < 60; seed++) {
            due.is("seed " + seed, thrown(face, new Random(seed)), 0);
        }
        due.close("WildTest");
    }

    private static int thrown(List<Method> face, Random random) throws IllegalAccessException {
        SlackRace x = new SlackRace();
        int thrown = 0;
        for (int i = 0; i < 512; i++) {
            if (random.nextInt(20) == 0) {
                settle(x, random);
            }
            Method m = face.get(random.nextInt(face.size()));
            Object[] numbers = new Object[m.getParameterCount()];
            for (int k = 0; k < numbers.length; k++) {
                numbers[k] = number(random);
            }
            try {
                m.invoke(x, numbers);
            } catch (InvocationTargetException e) {
                thrown++;
                System.out.println(m.getName() + List.of(numbers) + ": " + e.getCause());
            }
        }
        return thrown;
    }

    private static int number(Random random) {
        int dice = random.nextInt(8);
        return dice == 0 ? ODD[random.nextInt(ODD.length)]
                : dice == 1 ? random.nextInt() : random.nextInt(dice < 5 ? 6 : dice < 7 ? 50 : 1500);
    }

    /** Makes what random numbers hardly make. */
    private static void settle(SlackRace x, Random random) {
        String[] laws = {"gains fall * 1000 * 1000 / flow if minute / wind > 3 or not kind = 2",
            "gains turbines * 1000 - 500;white flow / [minute - 500]", "white 99 - kind * 20",
            "gains 1" + "*1000".repeat(49), "gains 5 if " + "not ".repeat(90) + "1<2", "gains [[["};
        Due.type(x, laws[random.nextInt(laws.length)]);
        x.law();
        x.force(random.nextInt(7) - 1);
        x.moon(random.nextInt(2), random.nextInt(4), random.nextInt(3), random.nextInt(500));
        x.terms(random.nextInt(11), random.nextInt(60));
        x.boat(1 + random.nextInt(800), random.nextInt(100));
        x.ship(random.nextInt(1440), 1 + random.nextInt(120), random.nextInt(2000));
        x.cast(random.nextInt(1440), random.nextInt(200) - 100);
        x.move(random.nextInt(5));
    }
}
