import java.io.IOException;
import java.lang.reflect.Method;
import java.lang.reflect.Modifier;
import java.net.URL;
import java.net.URLClassLoader;
import java.nio.file.Files;
import java.nio.file.Path;
import java.util.ArrayList;
import java.util.Arrays;
import java.util.HashMap;
import java.util.List;
import java.util.Map;
import java.util.function.LongConsumer;
import java.util.regex.Matcher;
import java.util.regex.Pattern;
import java.util.stream.Stream;
import javax.tools.ToolProvider;

/** What README.md says of an answer is what the class answers: its examples, and its tables. */
public final class ReadmeTest {
    private static final Pattern ANSWERED = Pattern.compile(" *(x\\.\\w+\\(.*\\)); +// (-?\\d+)(:.*)?");
    private static final Pattern BOUNDS = Pattern.compile("(\\w+) (-?\\d+) \\.\\. (-?\\d+)");

    /** Numbers whose bounds hang on the town, or are no bounds: one that is as told. */
    private static final Map<String, Integer> AS_TOLD =
            Map.of("of i", 0, "power m", 0, "order kinds", 1, "order i", -1);

    /** A row of the tables that tell the calls. */
    private record Row(String name, List<String> numbers, Map<String, int[]> bounds, String bad, String refused) {
        int[] asTold() {
            int[] told = new int[numbers.size()];
            for (int i = 0; i < told.length; i++) {
                int[] least = bounds.get(numbers.get(i));
                told[i] = least != null ? least[0] : AS_TOLD.getOrDefault(name + " " + numbers.get(i), 0);
            }
            return told;
        }

        long on(LevelGone x, int... told) throws ReflectiveOperationException {
            Class<?>[] types = new Class<?>[told.length];
            Arrays.fill(types, int.class);
            Object[] arguments = Arrays.stream(told).boxed().toArray();
            return ((Number) LevelGone.class.getMethod(name, types).invoke(x, arguments)).longValue();
        }
    }

    private static List<Row> rows(List<String> page) {
        List<Row> rows = new ArrayList<>();
        for (String line : page) {
            if (line.startsWith("| `")) {
                String[] cells = line.split(" *\\| *", -1);
                String call = cells[1].replace("`", "");
                String numbers = call.substring(call.indexOf('(') + 1, call.indexOf(')'));
                rows.add(new Row(call.substring(0, call.indexOf('(')),
                        numbers.isEmpty() ? List.of() : List.of(numbers.split(", ")),
                        bounds(cells[2]), cells[4], cells[5]));
            }
        }
        return rows;
    }

    private static Map<String, int[]> bounds(String told) {
        Map<String, int[]> bounds = new HashMap<>();
        Matcher one = BOUNDS.matcher(told);
        while (one.find()) {
            bounds.put(one.group(1), new int[] {Integer.parseInt(one.group(2)), Integer.parseInt(one.group(3))});
        }
        return bounds;
    }

    private static void allCallsAreTold(List<Row> rows) {
        List<String> told = new ArrayList<>();
        for (Row row : rows) {
            told.add(row.name + " of " + row.numbers.size());
        }
        List<String> face = new ArrayList<>();
        for (Method method : LevelGone.class.getDeclaredMethods()) {
            if (Modifier.isPublic(method.getModifiers())) {
                face.add(method.getName() + " of " + method.getParameterCount());
            }
        }
        told.sort(null);
        face.sort(null);
        Due.that("the tables tell each call once: " + told, told.equals(face));
    }

    /** All within the bounds that a row tells is as told; one beyond them is BAD, answered as the row says. */
    private static void numbers(Row row) throws ReflectiveOperationException {
        Due.that(row.name + ": BAD is told where it takes numbers", row.bad.isEmpty() == row.numbers.isEmpty());
        for (int i = 0; i < row.numbers.size(); i++) {
            int[] bounds = row.bounds.get(row.numbers.get(i));
            boolean other = AS_TOLD.containsKey(row.name + " " + row.numbers.get(i));
            Due.that(row.name + ": bounds of " + row.numbers.get(i), bounds != null || other);
            if (bounds != null) {
                number(row, i, bounds[0], Seen.NONE);
                number(row, i, bounds[1], Seen.NONE);
                number(row, i, bounds[0] - 1, Seen.BAD);
                number(row, i, bounds[1] + 1, Seen.BAD);
            }
            number(row, i, Integer.MIN_VALUE, Seen.BAD);
        }
    }

    private static void number(Row row, int i, int value, int reason) throws ReflectiveOperationException {
        LevelGone x = Towns.rich();
        int[] before = Seen.statuses(x);
        int[] told = row.asTold();
        told[i] = value;
        String call = row.name + Arrays.toString(told);
        long answer = row.on(x, told);
        Seen.counted(call, x, before, reason);
        if (reason == Seen.BAD) {
            Due.is(call, answer, Integer.parseInt(row.bad));
        }
    }

    /** FULL where a town is full of all, NO where nothing was done: where the row says so, and there alone. */
    private static void refusals(Row row) throws ReflectiveOperationException {
        refused(row, Towns.full(), "FULL", Seen.FULL, LevelGone.FULL);
        refused(row, new LevelGone(), "NO", Seen.NO, LevelGone.NO);
    }

    private static void refused(Row row, LevelGone x, String reason, int status, int answer)
            throws ReflectiveOperationException {
        boolean due = row.refused.startsWith(reason + ": ");
        int before = x.status(status);
        long got = row.on(x, row.asTold());
        Due.is(row.name + ", counted as " + reason, x.status(status) - before, due ? 1 : 0);
        if (due) {
            Due.is(row.name + ", " + reason, got, answer);
        }
    }

    /** "off by 0, pulled by 9 each year: off behind years 0, 1, 2, 3". */
    private static void levels(List<String> page) {
        int told = 0;
        for (String line : page) {
            Matcher row = Pattern.compile("\\| (\\d) \\| [a-z ]+ \\| (\\d), (\\d), (\\d), (\\d)( .*)?\\|").matcher(line);
            if (row.matches()) {
                LevelGone x = Towns.of(Integer.parseInt(row.group(1)), 9, 9, 9, 9);
                for (int years = 1; years <= 4; years++) {
                    Due.is(line + " " + years, x.then(years), Integer.parseInt(row.group(years + 1)));
                }
                told++;
            }
        }
        Due.is("kinds of levels", told, 6);
    }

    /** "stands on what is unlike by, at most", "bears, at most", "is heavy"; each seen by marks. */
    private static void storeys(List<String> page) {
        int told = 0;
        for (String line : page) {
            String[] cells = line.split(" *\\| *", -1);
            if (line.matches("\\| \\d \\|.*") && cells.length == 7) {
                int kind = Integer.parseInt(cells[1]);
                int unlike = cells[3].startsWith("anything") ? 6 : Integer.parseInt(cells[3]);
                int bears = cells[4].equals("anything") ? 30 : Integer.parseInt(cells[4]);
                stood(line, kind, unlike, bears, 1);
                stood(line, kind, unlike + 1, bears, cells[3].equals("anything") ? 1 : 0);
                if (bears < 30) {
                    stood(line, kind, unlike, bears + 1, 0);
                }
                LevelGone x = new LevelGone();
                x.build(0, kind, 0);
                Due.is(line + " heavy", x.plot(0, 2), Integer.parseInt(cells[5]));
                told++;
            }
        }
        Due.is("kinds of storeys", told, 6);
    }

    private static void stood(String line, int kind, int a, int l, int stood) {
        LevelGone x = new LevelGone();
        x.mark(0, a, 0, l, stood);
        Due.is(line + " tilted by " + a + ", load " + l, x.kinds(0) >> kind & 1, 1);
    }

    /** The java blocks of the page, as a class whose calls tell their answers; due is what the page says they are. */
    private static String examples(List<String> page, List<String> calls, List<Long> due) {
        StringBuilder code = new StringBuilder("public final class ReadmeExamples {\n");
        int blocks = 0;
        boolean within = false;
        for (String line : page) {
            Matcher answered = ANSWERED.matcher(line);
            if (line.equals("```java")) {
                within = true;
                code.append("static void block").append(blocks++).append("(java.util.function.LongConsumer answers) {\n");
            } else if (within && line.equals("```")) {
                within = false;
                code.append("}\n");
            } else if (within && answered.matches()) {
                code.append("answers.accept(").append(answered.group(1)).append(");\n");
                calls.add(line);
                due.add(Long.parseLong(answered.group(2)));
            } else if (within) {
                code.append(line).append("\n");
            }
        }
        code.append("public static void run(java.util.function.LongConsumer answers) {\n");
        for (int i = 0; i < blocks; i++) {
            code.append("block").append(i).append("(answers);\n");
        }
        return code.append("}\n}\n").toString();
    }

    private static void examples(List<String> page) throws IOException, ReflectiveOperationException {
        List<String> calls = new ArrayList<>();
        List<Long> due = new ArrayList<>();
        List<Long> got = new ArrayList<>();
        String code = examples(page, calls, due);
        Path folder = Files.createTempDirectory("readme");
        Path source = Files.writeString(folder.resolve("ReadmeExamples.java"), code);
        int failed = ToolProvider.getSystemJavaCompiler().run(null, null, null, "-cp",
                System.getProperty("java.class.path"), "-d", folder.toString(), source.toString());
        Due.is("the examples compile", failed, 0);
        if (failed == 0) {
            try (URLClassLoader loader = new URLClassLoader(new URL[] {folder.toUri().toURL()})) {
                LongConsumer answers = got::add;
                loader.loadClass("ReadmeExamples").getMethod("run", LongConsumer.class).invoke(null, answers);
            }
        }
        Due.is("answers of the examples", got.size(), due.size());
        for (int i = 0; i < Math.min(got.size(), due.size()); i++) {
            Due.is(calls.get(i), got.get(i), due.get(i));
        }
        delete(folder);
    }

    private static void delete(Path folder) throws IOException {
        try (Stream<Path> files = Files.list(folder)) {
            for (Path file : files.toList()) {
                Files.delete(file);
            }
        }
        Files.delete(folder);
    }

    /** "It runs every test": each is told by its name, and no other. */
    private static void testsAreTold(String page) throws IOException {
        Path folder = Path.of("src/test/java");
        try (Stream<Path> files = Files.list(folder)) {
            for (Path file : files.toList()) {
                String name = file.getFileName().toString().replace(".java", "");
                Due.that(name + " is told", page.contains("`" + name + "`"));
            }
        }
        Matcher told = Pattern.compile("`(\\w+Test)`").matcher(page);
        while (told.find()) {
            Due.that(told.group(1) + " is there", Files.exists(folder.resolve(told.group(1) + ".java")));
        }
    }

    public static void main(String[] args) throws IOException, ReflectiveOperationException {
        List<String> page = Files.readAllLines(Path.of("README.md"));
        List<Row> rows = rows(page);
        allCallsAreTold(rows);
        for (Row row : rows) {
            numbers(row);
            refusals(row);
        }
        levels(page);
        storeys(page);
        examples(page);
        testsAreTold(String.join("\n", page));
        Due.end();
    }
}
