import java.lang.reflect.Method;
import java.util.ArrayList;
import java.util.Arrays;
import java.util.Comparator;
import java.util.HashMap;
import java.util.List;
import java.util.Map;
import java.util.Random;

/** Long runs of calls by a fixed seed, each answer compared with the model's. */
public final class ModelTest {
    private static final int RUNS = 5000;

    /** An object is used for so many calls at most; what later ones answer is free. */
    private static final int CALLS = 512;

    /** One call, the digest and STATUS. */
    private static final int CALLS_COMPARED = 5;
    private static final int[] WRONG = {
        Integer.MIN_VALUE, Integer.MAX_VALUE, -101, -11, -10, -2, -1, 10, 11, 31, 60, 61, 99, 100, 127, 128, 150};

    /** The numbers told of each call: least and most of each argument, in turn. */
    private static final Map<String, int[]> TOLD = new HashMap<>();

    static {
        TOLD.put("town", new int[] {0, 5});
        TOLD.put("pull", new int[] {0, 5, -9, 9});
        TOLD.put("member", new int[] {-9, 9});
        TOLD.put("type", new int[] {0, 127});
        TOLD.put("build", new int[] {0, 5, 0, 5, 0, 1});
        TOLD.put("year", new int[] {1, 9});
        TOLD.put("now", new int[] {0, 3});
        TOLD.put("of", new int[] {0, 5, 0, 4, 0, 2});
        TOLD.put("plot", new int[] {0, 5, 0, 2});
        TOLD.put("then", new int[] {0, 99});
        TOLD.put("when", new int[] {1, 9});
        TOLD.put("fits", new int[] {0, 5, 0, 5, 0, 1});
        TOLD.put("rolls", new int[] {0, 5});
        TOLD.put("lies", new int[] {0, 1});
        TOLD.put("pass", new int[] {0, 5, 0, 5});
        TOLD.put("order", new int[] {1, 6666, -1, 4});
        TOLD.put("council", new int[] {0, 2});
        TOLD.put("power", new int[] {0, 4});
        TOLD.put("built", new int[] {0, 5, -9, 9});
        TOLD.put("note", new int[] {-9, 9, -9, 9, 0, 99, -9, 9});
        TOLD.put("mark", new int[] {0, 2, -9, 9, -9, 9, 0, 30, 0, 1});
        TOLD.put("forget", new int[] {0, 1});
        TOLD.put("kinds", new int[] {0, 2});
        TOLD.put("tries", new int[] {0, 2});
        TOLD.put("chance", new int[] {1, 9, 0, 8, 0, 10});
        TOLD.put("times", new int[] {0, 999999, 0, 60});
        TOLD.put("part", new int[] {0, 1});
        TOLD.put("image", new int[] {0, 1});
        TOLD.put("from", new int[] {0, 1});
        TOLD.put("status", new int[] {0, 2});
        TOLD.put("count", new int[] {0, 6});
    }

    /** Calls that bring a town on are made more often than their share. */
    private static final List<String> OFTEN = Arrays.asList("build", "build", "build", "build", "year", "year", "undo");
    private static final List<String> SELDOM = Arrays.asList("town", "pull", "member", "from", "forget");

    private final Random random;
    private final LevelGone program = new LevelGone();
    private final Model model = new Model();
    private final List<String> calls = new ArrayList<>();

    private ModelTest(long seed) {
        random = new Random(seed);
    }

    private int number(int least, int most) {
        return random.nextInt(40) == 0
                ? WRONG[random.nextInt(WRONG.length)]
                : least + random.nextInt(most - least + 1);
    }

    private int[] arguments(String name, int count) {
        int[] told = TOLD.getOrDefault(name, new int[0]);
        int[] arguments = new int[count];
        for (int i = 0; i < count; i++) {
            arguments[i] = number(told[2 * i], told[2 * i + 1]);
        }
        if (name.equals("order") && random.nextInt(20) > 0) {
            arguments[0] = figures(1 + random.nextInt(4));
        }
        if (name.equals("year") && random.nextInt(20) == 0) {
            arguments[0] = 99;
        }
        if (name.equals("note") && random.nextInt(3) > 0) {
            arguments[3] = Model.LEVELS[random.nextInt(6)].off(Math.floorMod(arguments[2], 100), arguments[0] % 10, arguments[1] % 10);
        }
        if (name.equals("mark") && random.nextInt(2) > 0) {
            arguments[2] = arguments[1] / 2;
        }
        return arguments;
    }

    private int figures(int count) {
        int kinds = 0;
        for (int i = 0; i < count; i++) {
            kinds = 10 * kinds + 1 + random.nextInt(6);
        }
        return kinds;
    }

    private void call(Method ofProgram, Method ofModel, int... arguments) throws ReflectiveOperationException {
        Object[] boxed = new Object[arguments.length];
        for (int i = 0; i < boxed.length; i++) {
            boxed[i] = arguments[i];
        }
        String call = ofProgram.getName() + Arrays.toString(arguments);
        calls.add(call);
        long got = ((Number) ofProgram.invoke(program, boxed)).longValue();
        long want = ((Number) ofModel.invoke(model, boxed)).longValue();
        Due.is("behind " + calls.subList(Math.max(0, calls.size() - 12), calls.size()), got, want);
    }

    private void call(String name, int... arguments) throws ReflectiveOperationException {
        Class<?>[] types = new Class<?>[arguments.length];
        Arrays.fill(types, int.class);
        call(LevelGone.class.getMethod(name, types), Model.class.getMethod(name, types), arguments);
    }

    private void compareStatus() throws ReflectiveOperationException {
        call("digest");
        for (int what = 0; what <= 2; what++) {
            call("status", what);
        }
    }

    private String spaces(String between) {
        int kind = random.nextInt(8);
        return kind == 0 ? "" : kind == 1 ? "  " : between;
    }

    private String anyNumber(int most) {
        int kind = random.nextInt(60);
        if (kind == 0) {
            return Integer.toString(random.nextInt(1200));
        }
        int number = random.nextInt(most + (kind == 1 ? 3 : 1));
        return (number < 10 && kind < 8 ? "0" : "") + number;
    }

    private String item() {
        switch (random.nextInt(10)) {
            case 0:
                StringBuilder pulls = new StringBuilder("pulls");
                int count = random.nextInt(40) == 0 ? random.nextInt(2) * 7 : 1 + random.nextInt(6);
                for (int i = 0; i < count; i++) {
                    pulls.append(' ').append(anyNumber(18));
                }
                return pulls.toString();
            case 1:
                return "years" + spaces(" ") + anyNumber(99);
            case 2:
                return "string" + spaces(" ") + anyNumber(5) + " " + anyNumber(5);
            default:
                int p = random.nextInt(3) == 0 ? 0 : random.nextInt(6);
                return "build" + spaces(" ") + p + " " + spaces(" ") + anyNumber(5);
        }
    }

    private String townText() {
        StringBuilder text = new StringBuilder(spaces("")).append("town").append(spaces(" ")).append(anyNumber(5));
        int items = random.nextInt(18);
        for (int i = 0; i < items; i++) {
            text.append(spaces("")).append(';').append(spaces(" ")).append(item());
        }
        text.append(random.nextInt(12) == 0 ? "" : ";").append(spaces(""));
        if (random.nextInt(4) == 0) {
            spoil(text);
        }
        return text.toString();
    }

    /** Cuts, doubles or changes one byte of a text. */
    private void spoil(StringBuilder text) {
        int place = random.nextInt(text.length());
        String signs = "; 0159azT-\t\0\177townbuild";
        char sign = signs.charAt(random.nextInt(signs.length()));
        switch (random.nextInt(4)) {
            case 0: text.setLength(place); break;
            case 1: text.deleteCharAt(place); break;
            case 2: text.insert(place, sign); break;
            default: text.setCharAt(place, sign);
        }
    }

    private void readTown() throws ReflectiveOperationException {
        String text = townText();
        if (calls.size() + 1 + text.length() + CALLS_COMPARED > CALLS) {
            return;
        }
        call("clear");
        for (int i = 0; i < text.length(); i++) {
            call("type", text.charAt(i));
        }
        call("read");
        compareStatus();
    }

    private void run(Method[] methods, int most) throws ReflectiveOperationException {
        while (calls.size() + CALLS_COMPARED <= most) {
            Method method = methods[random.nextInt(methods.length)];
            if (random.nextInt(3) == 0) {
                String name = OFTEN.get(random.nextInt(OFTEN.size()));
                method = Arrays.stream(methods).filter(m -> m.getName().equals(name)).findFirst().orElseThrow();
            }
            if (SELDOM.contains(method.getName()) && random.nextInt(4) > 0) {
                continue;
            }
            Method ofModel = Model.class.getMethod(method.getName(), method.getParameterTypes());
            call(method, ofModel, arguments(method.getName(), method.getParameterCount()));
            compareStatus();
        }
    }

    public static void main(String[] args) throws ReflectiveOperationException {
        Method[] methods = Arrays.stream(LevelGone.class.getDeclaredMethods())
                .filter(m -> java.lang.reflect.Modifier.isPublic(m.getModifiers()))
                .sorted(Comparator.comparing(Method::getName)).toArray(Method[]::new);
        for (int seed = 0; seed < RUNS; seed++) {
            ModelTest run = new ModelTest(seed);
            if (seed % 3 == 0) {
                run.readTown();
                run.run(methods, CALLS);
            } else {
                run.run(methods, CALLS / 3);
                run.readTown();
                run.run(methods, CALLS);
            }
        }
        Due.end();
    }
}
