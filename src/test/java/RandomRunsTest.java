import java.lang.reflect.InvocationTargetException;
import java.lang.reflect.Method;
import java.util.ArrayList;
import java.util.Arrays;
import java.util.Comparator;
import java.util.List;
import java.util.Random;

/** Runs of 512 calls with chosen numbers, the same ones each time, on MarshDrains and on PlainMarsh. */
public final class RandomRunsTest {
    private static final int RUNS = 400;
    private static final int CALLS = 512;
    private static final int[] ODD = {-1, -2, 10, 16, 49, 51, 100, Integer.MIN_VALUE, Integer.MAX_VALUE};
    private static final Checks c = new Checks();

    /** How many of a hundred calls change something, how many carry, and how much rain and water there is. */
    private record Climate(int changes, int building, int rain, int hours, int water) {
    }

    private static final Climate[] CLIMATES = {
        new Climate(50, 50, 9, 48, 50), new Climate(40, 30, 3, 6, 20), new Climate(40, 15, 1, 3, 50),
        new Climate(30, 40, 0, 8, 12), new Climate(60, 10, 2, 2, 8)};

    public static void main(String[] args) throws ReflectiveOperationException {
        List<Method> asking = new ArrayList<>();
        List<Method> changing = new ArrayList<>();
        List<String> names = List.of("turn", "setRain", "flood", "pass");
        List<String> building = List.of("addField", "addDitch", "addPump");
        List<Method> builders = new ArrayList<>();
        for (Method method : MarshDrains.class.getDeclaredMethods()) {
            if (names.contains(method.getName())) {
                changing.add(method);
            } else if (building.contains(method.getName())) {
                builders.add(method);
            } else if (java.lang.reflect.Modifier.isPublic(method.getModifiers())) {
                asking.add(method);
            }
        }
        // Reflection promises no order, and each run is to be the same one each time.
        for (List<Method> methods : List.of(asking, changing, builders)) {
            methods.sort(Comparator.comparing(Method::getName));
        }
        for (int run = 0; run < RUNS; run++) {
            oneRun(run, asking, changing, builders);
        }
        c.end();
    }

    private static void oneRun(int run, List<Method> asking, List<Method> changing, List<Method> builders)
            throws ReflectiveOperationException {
        Random random = new Random(1000 + run);
        Climate climate = CLIMATES[run % CLIMATES.length];
        MarshDrains built = new MarshDrains();
        PlainMarsh plain = new PlainMarsh();
        for (int number = 0; number < CALLS; number++) {
            List<Method> kind = asking;
            if (random.nextInt(100) < (number < 25 ? 90 : climate.changes)) {
                kind = random.nextInt(100) < (number < 25 ? 90 : climate.building) ? builders : changing;
            }
            Method method = kind.get(random.nextInt(kind.size()));
            Object[] numbers = new Object[method.getParameterCount()];
            for (int i = 0; i < numbers.length; i++) {
                numbers[i] = argument(method.getName(), i, random, climate, plain);
            }
            String call = "run " + run + ", call " + number + ": " + method.getName() + Arrays.toString(numbers);
            Method same = PlainMarsh.class.getMethod(method.getName(), method.getParameterTypes());
            c.due(call, answer(method, built, numbers), answer(same, plain, numbers));
        }
    }

    private static int argument(String name, int place, Random random, Climate climate, PlainMarsh plain) {
        if (random.nextInt(25) == 0) {
            return ODD[random.nextInt(ODD.length)];
        }
        switch (name) {
            case "addField": return random.nextInt(place == 0 ? 21 : 100);
            case "addDitch":
            case "addPump": return place == 2 ? 1 + random.nextInt(9)
                : random.nextInt(plain.fields() + 1) - (place == 1 && name.equals("addPump") ? 1 : 0);
            case "setRain": return random.nextInt(climate.rain + 1);
            case "pass": return 1 + random.nextInt(climate.hours);
            case "lossIn": return 1 + random.nextInt(48);
            case "bestToFlood": return 1 + random.nextInt(50);
            case "flood": return place == 0 ? random.nextInt(plain.fields() + 1) : 1 + random.nextInt(climate.water);
            case "waterIn": return place == 0 ? random.nextInt(plain.fields() + 1) : 1 + random.nextInt(48);
            case "turn":
            case "isPump":
            case "isOpen":
            case "carriedBy":
            case "wouldCarry": return random.nextInt(plain.drains() + 1);
            default: return random.nextInt(plain.fields() + 1);
        }
    }

    private static String answer(Method method, Object of, Object[] numbers) throws IllegalAccessException {
        try {
            return String.valueOf(method.invoke(of, numbers));
        } catch (InvocationTargetException e) {
            // The very class, as in Checks: what the machine throws has another one.
            return "throws " + e.getCause().getClass().getName();
        }
    }
}
