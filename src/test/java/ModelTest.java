import java.lang.reflect.InvocationTargetException;
import java.lang.reflect.Method;
import java.lang.reflect.Modifier;
import java.util.ArrayList;
import java.util.Comparator;
import java.util.HashMap;
import java.util.List;
import java.util.Map;
import java.util.Random;

/** Runs of random calls, the same on every machine, each answered by HatFields and by the Model. */
public final class ModelTest {
    private static final int RUNS = 600;
    private static final int CALLS = 512;
    private static final List<Method> CALLABLE = new ArrayList<>();
    private static final Map<String, Method> OF_MODEL = new HashMap<>();

    /** How many calls of the run have been made; behind CALLS every answer is free. */
    private static int made;

    /** For each argument of a call the first number that is too high for it. */
    private static final Map<String, int[]> BOUNDS = new HashMap<>();

    static {
        bounds("wind", 24, 4, 10);
        bounds("windOf", 24);
        bounds("person", 25, 4);
        bounds("personOf", 5, 4);
        bounds("moves", 5, 25);
        bounds("speed", 5, 4);
        bounds("hat", 6, 10, 100, 25);
        bounds("hatOf", 6, 7);
        bounds("make", 6, 6, 10);
        bounds("puts", 6, 5);
        bounds("down", 6);
        bounds("found", 6, 25);
        bounds("bow", 5, 5);
        bounds("hours", 5);
        bounds("clock", 97);
        bounds("owns", 5, 49);
        bounds("where", 6, 49);
        bounds("wears", 6, 49);
        bounds("lost", 6);
        bounds("master", 49);
        bounds("wish", 5, 13);
        bounds("start", 5, 13);
        bounds("tie", 5, 13);
        bounds("seed", 1000);
        bounds("draw", 24);
        bounds("prove", 21);
        bounds("row", 20, 3);
        bounds("alterRow", 20, 3, 64);
        bounds("winds", 4, 41, 24, 25);
        bounds("sheet", 4, 4, 41);
        bounds("put", 4, 40, 300);
        bounds("item", 4, 4, 40);
        bounds("shelf", 4, 3, 6);
        bounds("taken", 4, 14);
        bounds("act", 4, 4, 1000);
        bounds("trace", 12);
        bounds("many", 7);
    }

    private static void bounds(String name, int... bounds) {
        BOUNDS.put(name, bounds);
    }

    public static void main(String[] args) throws Exception {
        for (Method m : HatFields.class.getDeclaredMethods()) {
            if (Modifier.isPublic(m.getModifiers())) {
                CALLABLE.add(m);
                OF_MODEL.put(m.getName(), Model.class.getDeclaredMethod(m.getName(), m.getParameterTypes()));
            }
        }
        CALLABLE.sort(Comparator.comparing(Method::getName));
        int runs = args.length > 0 ? Integer.parseInt(args[0]) : RUNS;
        int from = args.length > 1 ? Integer.parseInt(args[1]) : 0;
        for (int run = from; run < from + runs; run++) {
            oneRun(run);
        }
        Check.finish();
    }

    private static void oneRun(int run) throws Exception {
        Random random = new Random(run);
        HatFields x = new HatFields();
        Model model = new Model();
        made = 0;
        if (random.nextInt(4) != 0) {
            tell(run, random, x, model, true);
        }
        while (made < CALLS) {
            int choice = random.nextInt(60);
            if (choice == 0) {
                tell(run, random, x, model, random.nextInt(3) != 0);
            } else if (choice == 1) {
                blowHard(run, random, x, model);
            } else if (choice == 2) {
                actAndTrace(run, random, x, model);
            } else {
                Method m = CALLABLE.get(random.nextInt(CALLABLE.size()));
                if (!m.getName().equals("plain") || random.nextInt(4) == 0) {
                    compare(run, x, model, m, arguments(random, m));
                }
            }
        }
    }

    private static void blowHard(int run, Random random, HatFields x, Model model) throws Exception {
        for (int i = 0; i < 4; i++) {
            compare(run, x, model, named("wind"), new Object[] {random.nextInt(24), random.nextInt(4), random.nextInt(10)});
        }
    }

    private static void actAndTrace(int run, Random random, HatFields x, Model model) throws Exception {
        int shelf = random.nextInt(4);
        compare(run, x, model, named("shelf"), new Object[] {shelf, 0, random.nextInt(6)});
        compare(run, x, model, named("act"), new Object[] {shelf, random.nextInt(4), random.nextInt(2001) - 1000});
        for (int i = 0; i <= 12; i++) {
            compare(run, x, model, named("trace"), new Object[] {i});
        }
    }

    private static Method named(String name) {
        return CALLABLE.stream().filter(m -> m.getName().equals(name)).findFirst().orElseThrow();
    }

    private static Object[] arguments(Random random, Method m) {
        Object[] arguments = new Object[m.getParameterCount()];
        if (m.getName().equals("feed")) {
            arguments[0] = random.nextLong();
            arguments[1] = random.nextInt(11) - 1;
            return arguments;
        }
        int[] bounds = BOUNDS.get(m.getName());
        for (int i = 0; i < arguments.length; i++) {
            arguments[i] = argument(random, bounds[i]);
        }
        return arguments;
    }

    private static int argument(Random random, int bound) {
        switch (random.nextInt(60)) {
            case 0: return -1;
            case 1: return bound;
            case 2: return random.nextInt();
            case 3: return random.nextBoolean() ? Integer.MIN_VALUE : Integer.MAX_VALUE;
            case 4: return -random.nextInt(300);
            case 5: return 0;
            case 6: return bound - 1;
            default: return bound <= 7 || random.nextBoolean() ? random.nextInt(bound) : random.nextInt(Math.min(bound, 9));
        }
    }

    private static void compare(int run, HatFields x, Model model, Method m, Object[] arguments) throws Exception {
        if (made >= CALLS) {
            return;
        }
        made++;
        int due;
        try {
            due = (Integer) OF_MODEL.get(m.getName()).invoke(model, arguments);
        } catch (InvocationTargetException e) {
            if (!(e.getCause() instanceof Model.Refused refused)) {
                throw e;
            }
            due = refused.answer;
        }
        String call = "run " + run + ": " + m.getName() + java.util.Arrays.toString(arguments);
        try {
            Check.due(call, (Integer) m.invoke(x, arguments), due);
        } catch (InvocationTargetException e) {
            System.out.println(call + " threw " + e.getCause());
            Check.due(call, Long.MIN_VALUE, due);
        }
    }

    private static void tell(int run, Random random, HatFields x, Model model, boolean right) throws Exception {
        String text = text(random);
        if (!right) {
            text = spoilt(random, text);
        }
        for (int at = 0; at < text.length(); at += 8) {
            int n = Math.min(8, text.length() - at);
            long eight = random.nextLong() << 8 * (n - 1) << 8;
            for (int i = 0; i < n; i++) {
                eight |= (long) (text.charAt(at + i) & 255) << 8 * i;
            }
            compare(run, x, model, named("feed"), new Object[] {eight, n});
        }
        compare(run, x, model, named("plain"), new Object[0]);
    }

    private static String text(Random random) {
        StringBuilder text = new StringBuilder();
        int people = 0;
        for (int i = random.nextInt(16); i > 0 && text.length() < 180; i--) {
            switch (random.nextInt(6)) {
                case 0, 1 -> {
                    people++;
                    text.append("person ").append(random.nextInt(25));
                    if (random.nextBoolean()) {
                        text.append(" speed ").append(random.nextInt(4));
                    }
                }
                case 2, 3, 4 -> {
                    String[] kinds = {"hat", "pinned", "straw", "tied", "feathered", "felt"};
                    text.append(kinds[random.nextInt(6)]).append(' ').append(random.nextInt(10));
                    text.append(" worth ").append(random.nextInt(100));
                    boolean worn = people > 0 && random.nextBoolean();
                    text.append(worn ? " of " : " on ").append(random.nextInt(worn ? Math.min(5, people) : 25));
                }
                default -> {
                    String[] directions = {"north", "east", "south", "west"};
                    if (random.nextInt(3) == 0) {
                        text.append("now ").append(random.nextInt(97));
                    } else {
                        text.append("wind ").append(random.nextInt(24)).append(' ');
                        text.append(directions[random.nextInt(4)]).append(' ').append(random.nextInt(10));
                    }
                }
            }
            text.append(random.nextInt(9) == 0 ? " ; " : ";");
        }
        return text.toString();
    }

    private static String spoilt(Random random, String text) {
        StringBuilder spoilt = new StringBuilder(text);
        int at = random.nextInt(text.length() + 1);
        switch (random.nextInt(5)) {
            case 0 -> spoilt.setLength(at);
            case 1 -> spoilt.insert(at, (char) random.nextInt(256));
            case 2 -> spoilt.insert(at, "0123456789 ;azk".charAt(random.nextInt(15)));
            case 3 -> spoilt.insert(at, random.nextBoolean() ? "speed" : "person 7;");
            default -> {
                if (at < spoilt.length()) {
                    spoilt.deleteCharAt(at);
                }
            }
        }
        return spoilt.toString();
    }
}
