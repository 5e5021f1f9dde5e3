import java.io.IOException;
import java.lang.reflect.Method;
import java.lang.reflect.Modifier;
import java.nio.file.Files;
import java.nio.file.Path;
import java.util.Arrays;
import java.util.regex.Matcher;
import java.util.regex.Pattern;

/** README.md tells how to use the class: its example's answers are the class's own, and no call is left out. */
public final class ReadmeTest {
    private static final Pattern STEP = Pattern.compile("(?m)^bench\\.(\\w+)\\(([^)]*)\\); +// (-?\\d+)");
    private static final Pattern LINE = Pattern.compile("(?m)^bench\\.");
    private static int wrong = 0;

    private ReadmeTest() {
    }

    public static void main(String[] args) throws ReflectiveOperationException, IOException {
        String readme = Files.readString(Path.of("README.md"));
        SignBench bench = new SignBench();
        long steps = 0;
        for (Matcher step = STEP.matcher(readme); step.find(); steps++) {
            long got = answer(bench, step.group(1), step.group(2));
            if (got != Long.parseLong(step.group(3))) complain(step.group() + " .. but it answered " + got);
        }
        if (steps == 0 || steps != LINE.matcher(readme).results().count()) complain("a line of the example tells no answer");
        for (Method m : SignBench.class.getDeclaredMethods()) {
            if (Modifier.isPublic(m.getModifiers()) && !isNamed(readme, m)) complain("the table lacks " + m);
        }
        System.out.println(wrong == 0 ? "README.md tells it as it is" : wrong + " lines of README.md are wrong");
        if (wrong != 0) System.exit(1);
    }

    private static long answer(SignBench bench, String name, String given) throws ReflectiveOperationException {
        Object[] numbers = given.isEmpty() ? new Object[0]
                : Arrays.stream(given.split(", ")).map(Integer::valueOf).toArray();
        Class<?>[] types = new Class<?>[numbers.length];
        Arrays.fill(types, int.class);
        return ((Number) SignBench.class.getMethod(name, types).invoke(bench, numbers)).longValue();
    }

    /** In the table a call stands with as many names between its brackets as it takes numbers. */
    private static boolean isNamed(String readme, Method m) {
        String names = m.getParameterCount() == 0 ? "" : "\\w+(, \\w+){" + (m.getParameterCount() - 1) + "}";
        return Pattern.compile("`" + m.getName() + "\\(" + names + "\\)`").matcher(readme).find();
    }

    private static void complain(String what) {
        wrong++;
        System.out.println(what);
    }
}
