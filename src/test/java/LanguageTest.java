import java.io.IOException;
import java.lang.reflect.Field;
import java.lang.reflect.Member;
import java.lang.reflect.Method;
import java.lang.reflect.Modifier;
import java.nio.file.Files;
import java.nio.file.Path;
import java.util.ArrayList;
import java.util.Arrays;
import java.util.List;
import java.util.Set;
import java.util.TreeSet;

/** The rules of LANGUAGE.md that can be seen without reading: the face, the sizes, and what must not stand there. */
final class LanguageTest {
    private static final Path SOURCE = Path.of("src/main/java/BeltFloor.java");

    private static final String FACE = "append(int) clearText() errorPosition() load() kindOf(int) hasCrate(int) "
            + "cratesByCells() cratesByAccounts() lost() checkpoints() cellOfCheckpoint(int) cellOf(int) "
            + "facingOf(int) nextOf(int) isHome(int) movesOf(int) bumpsOf(int) pushesOf(int) fallsOf(int) steps() "
            + "lengthOf(int) instructionAt(int,int) placeOf(int) setKind(int,int) addCrate(int) takeCrate(int) "
            + "addCheckpoint(int) putRobot(int,int,int) write(int,int) wipe(int) step(int) undo() rowAhead(int) "
            + "wouldClash() passesIn(int) loopByWaiting() loopByKeeping() fewestBySpreading(int,int) "
            + "fewestBySweeping(int,int) simulate(long,int) save(int) restore(int)";

    private static final String[] NOT_ALLOWED = {
        "->", "::", "import ", "package ", "finally", "catch", "synchronized", "assert", "@", "System.out", "Exact(",
        "float ", "double ", "instanceof", "native", "volatile", "transient", "lambda", "getClass", "hashCode",
        "\" +", "+ \"", "static {", "extends ", "Random", "Thread", "nanoTime", "currentTimeMillis"};

    public static void main(String[] args) throws IOException {
        face();
        classes();
        words();
        Check.end();
    }

    private static boolean isPrivate(Member member) {
        return Modifier.isPrivate(member.getModifiers());
    }

    private static String signature(Method method) {
        List<String> types = new ArrayList<>();
        for (Class<?> type : method.getParameterTypes()) {
            types.add(type.getName());
        }
        return method.getName() + "(" + String.join(",", types) + ")";
    }

    private static void face() {
        Set<String> open = new TreeSet<>();
        Set<String> names = new TreeSet<>();
        for (Method method : BeltFloor.class.getDeclaredMethods()) {
            if (!isPrivate(method)) {
                Check.same("public " + method, Modifier.isPublic(method.getModifiers()), true);
                Check.same("of an object " + method, Modifier.isStatic(method.getModifiers()), false);
                String answer = method.getReturnType().getName();
                boolean tells = Set.of("hasCrate", "isHome", "wouldClash").contains(method.getName());
                Check.same("answer of " + method, answer.equals(tells ? "boolean" : "int"), true);
                open.add(signature(method));
                names.add(method.getName());
            }
        }
        Check.same("the face is " + open, open.equals(new TreeSet<>(Arrays.asList(FACE.split(" ")))), true);
        Check.same("constructors", BeltFloor.class.getConstructors().length, 1);
        Check.same("declared constructors", BeltFloor.class.getDeclaredConstructors().length, 1);
        Check.same("final", Modifier.isFinal(BeltFloor.class.getModifiers()), true);
        for (Field field : BeltFloor.class.getDeclaredFields()) {
            Check.same("open field " + field, isPrivate(field), !field.getName().equals("NONE"));
        }
        for (Class<?> inside : BeltFloor.class.getDeclaredClasses()) {
            for (Method method : inside.getDeclaredMethods()) {
                Check.same("a name of the face: " + method, names.contains(method.getName()), false);
            }
        }
    }

    private static void classes() {
        Class<?>[] inside = BeltFloor.class.getDeclaredClasses();
        Check.same("some twelve classes", inside.length <= 12, true);
        for (Class<?> one : inside) {
            Check.same("static " + one, Modifier.isStatic(one.getModifiers()), true);
            Check.same("private " + one, Modifier.isPrivate(one.getModifiers()), true);
            int fields = 0;
            for (Field field : one.getDeclaredFields()) {
                boolean isStatic = Modifier.isStatic(field.getModifiers());
                Check.same("final " + field, !isStatic || Modifier.isFinal(field.getModifiers()), true);
                fields += isStatic ? 0 : 1;
            }
            Check.same("some twenty fields of " + one, fields <= 20, true);
            for (Method method : one.getDeclaredMethods()) {
                Check.same("parameters of " + method, method.getParameterCount() <= 7, true);
            }
        }
    }

    private static void words() throws IOException {
        for (String line : Files.readAllLines(SOURCE)) {
            String code = line.strip();
            if (code.startsWith("/**") || code.startsWith("*") || code.startsWith("//")) {
                continue;
            }
            for (String word : NOT_ALLOWED) {
                Check.same("no " + word + " in: " + code, code.contains(word), false);
            }
            if (code.contains("new ")) {
                // Whatever is kept is made with the object; only exceptions are made later.
                boolean kept = code.contains("final ") || code.equals("states[i] = new Floor();");
                Check.same("made here: " + code, kept || code.startsWith("throw new "), true);
            }
            for (char c : code.toCharArray()) {
                Check.same("a sign of: " + code, c >= 32 && c < 127, true);
            }
        }
    }
}
