import java.io.IOException;
import java.lang.reflect.InvocationTargetException;
import java.lang.reflect.Method;
import java.lang.reflect.Modifier;
import java.nio.file.Files;
import java.nio.file.Path;
import java.util.Arrays;
import java.util.Set;
import java.util.TreeSet;
import java.util.regex.Matcher;
import java.util.regex.Pattern;

/** README.md tells the truth: each call in its examples answers what stands behind it, and no call and no test is missing. */
final class ReadmeTest {
    private static final Pattern CALL = Pattern.compile("floor\\.(\\w+)\\((.*)\\); *// ([-\\w]+)(: .*)?");
    private static final Pattern TYPING =
            Pattern.compile("for \\(char c : \"(.*)\"\\.toCharArray\\(\\)\\) floor\\.append\\(c\\);");

    private static BeltFloor floor;
    private static int examples = 0;

    public static void main(String[] args) throws IOException {
        String readme = Files.readString(Path.of("README.md"));
        boolean inExample = false;
        for (String line : readme.split("\n")) {
            if (line.startsWith("```")) {
                inExample = line.equals("```java");
            } else if (inExample) {
                follow(line);
            }
        }
        Check.same("README.md has examples", examples > 30, true);
        namesEveryCall(readme);
        namesEveryTest(readme);
        Check.end();
    }

    private static void follow(String line) {
        Matcher typing = TYPING.matcher(line);
        Matcher call = CALL.matcher(line);
        if (line.equals("BeltFloor floor = new BeltFloor();")) {
            floor = new BeltFloor();
        } else if (floor != null && typing.matches()) {
            Floors.type(floor, typing.group(1));
        } else if (floor != null && call.matches()) {
            Check.same("README.md: " + line, answer(call.group(1), call.group(2)), call.group(3));
            examples++;
        } else {
            Check.fail("README.md: not understood: " + line);
        }
    }

    private static String answer(String name, String arguments) {
        String[] given = arguments.isEmpty() ? new String[0] : arguments.split(", ");
        for (Method method : BeltFloor.class.getMethods()) {
            if (method.getName().equals(name) && method.getParameterCount() == given.length) {
                try {
                    return String.valueOf(method.invoke(floor, numbers(method.getParameterTypes(), given)));
                } catch (InvocationTargetException e) {
                    return e.getCause().getClass().getSimpleName();
                } catch (IllegalAccessException e) {
                    return "not to be called";
                }
            }
        }
        return "no such call";
    }

    private static Object[] numbers(Class<?>[] types, String[] given) {
        Object[] numbers = new Object[given.length];
        for (int i = 0; i < given.length; i++) {
            String word = given[i];
            long number = word.startsWith("'") ? word.charAt(1) : Long.parseLong(word.replace("L", ""));
            if (types[i] == long.class) {
                numbers[i] = number;
            } else {
                numbers[i] = (int) number;
            }
        }
        return numbers;
    }

    private static void namesEveryCall(String readme) {
        Set<String> words = new TreeSet<>(Arrays.asList(readme.split("\\W+")));
        for (Method method : BeltFloor.class.getDeclaredMethods()) {
            if (Modifier.isPublic(method.getModifiers())) {
                Check.same("README.md names " + method.getName(), words.contains(method.getName()), true);
            }
        }
    }

    private static void namesEveryTest(String readme) throws IOException {
        try (var files = Files.list(Path.of("src/test/java"))) {
            for (Path file : files.toList()) {
                String name = file.getFileName().toString().replace(".java", "");
                if (name.endsWith("Test")) {
                    Check.same("README.md names " + name, readme.contains("| " + name + " |"), true);
                }
            }
        }
    }
}
