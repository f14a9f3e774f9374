import java.io.IOException;
import java.lang.reflect.Method;
import java.lang.reflect.Modifier;
import java.nio.file.Files;
import java.nio.file.Path;
import java.util.Arrays;
import java.util.Set;
import java.util.TreeSet;
import java.util.regex.Matcher;
import java.util.regex.Pattern;

/**
 * README.md says how the class is used: its example is played on a new object, each answer held
 * against the one written behind the call, and each name of the face must stand in it.
 */
public final class HuffForgeReadme {
    private static final String FIRST_LINE = "HuffForge forge = new HuffForge();";
    private static final Pattern CALL = Pattern.compile("forge\\.(\\w+)\\(([^)]*)\\); +// ([^: ]+).*");
    private static final Pattern TOLD = Pattern.compile("\\| `(\\w+)\\(([^)]*)\\)` \\| \\S.*\\|");

    private static int wrong = 0;

    private static void fault(String text) {
        wrong++;
        System.out.println("README.md: " + text);
    }

    private static int[] numbers(String arguments) {
        return Arrays.stream(arguments.split(", ")).filter(a -> !a.isEmpty()).mapToInt(Integer::parseInt).toArray();
    }

    private static String nameAndCount(String name, String arguments) {
        return name + "/" + (arguments.isEmpty() ? 0 : arguments.split(", ").length);
    }

    private static Method methodOf(String nameAndCount) {
        for (Method m : HuffForge.class.getDeclaredMethods()) {
            if (Modifier.isPublic(m.getModifiers()) && nameAndCount.equals(m.getName() + "/" + m.getParameterCount())) {
                return m;
            }
        }
        return null;
    }

    private static void playLine(HuffForge forge, Matcher call) throws ReflectiveOperationException {
        Method method = methodOf(nameAndCount(call.group(1), call.group(2)));
        if (method == null) {
            fault("there is no such call: " + call.group());
            return;
        }
        Object answer = method.invoke(forge, Arrays.stream(numbers(call.group(2))).boxed().toArray());
        if (method.getReturnType() != void.class && !String.valueOf(answer).equals(call.group(3))) {
            fault(call.group() + " answered " + answer);
        }
    }

    /** Answers which calls the example has. */
    private static Set<String> playExample(String readme) throws ReflectiveOperationException {
        Set<String> played = new TreeSet<>();
        HuffForge forge = new HuffForge();
        int start = readme.indexOf("```java\n" + FIRST_LINE + "\n");
        int end = readme.indexOf("```\n", start + 1);
        if (start < 0 || end < 0) {
            fault("there is no example");
            return played;
        }
        String[] lines = readme.substring(start, end).split("\n");
        for (String line : Arrays.copyOfRange(lines, 2, lines.length)) {
            Matcher call = CALL.matcher(line);
            if (call.matches()) {
                playLine(forge, call);
                played.add(nameAndCount(call.group(1), call.group(2)));
            } else if (!line.isEmpty() && !line.startsWith("// ")) {
                fault("this line of the example tells no answer: " + line);
            }
        }
        return played;
    }

    private static Set<String> toldInTable(String readme) {
        Set<String> told = new TreeSet<>();
        Matcher row = TOLD.matcher(readme);
        while (row.find()) {
            told.add(nameAndCount(row.group(1), row.group(2)));
        }
        return told;
    }

    private static Set<String> face() {
        Set<String> names = new TreeSet<>();
        for (Method m : HuffForge.class.getDeclaredMethods()) {
            if (Modifier.isPublic(m.getModifiers())) {
                names.add(m.getName() + "/" + m.getParameterCount());
            }
        }
        return names;
    }

    private static void same(String what, Set<String> got, Set<String> due) {
        if (!got.equals(due)) {
            fault(what + " has " + got + ", due is " + due);
        }
    }

    private static void mustSay(String readme, String text) {
        if (!readme.contains(text)) {
            fault("it does not say: " + text);
        }
    }

    /** So that a test that is new, or has another name, is told of there too. */
    private static void tellsEveryTest(String readme) throws IOException {
        try (var files = Files.list(Path.of("src/test/java"))) {
            files.forEach(file -> mustSay(readme, "`" + file.toString().replace('\\', '/') + "`"));
        }
    }

    public static void main(String[] args) throws IOException, ReflectiveOperationException {
        String readme = Files.readString(Path.of("README.md"));
        same("the example", playExample(readme), face());
        same("the table of calls", toldInTable(readme), face());
        mustSay(readme, "`NONE` is " + HuffForge.NONE);
        mustSay(readme, "\n    .ci/run\n");
        mustSay(readme, "`../shared/tests/*.java`");
        tellsEveryTest(readme);
        System.out.println(wrong == 0 ? "README.md is as due" : wrong + " faults");
        if (wrong != 0) {
            System.exit(1);
        }
    }
}
