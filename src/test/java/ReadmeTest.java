import java.io.File;
import java.lang.reflect.Method;
import java.lang.reflect.Modifier;
import java.nio.file.Files;
import java.nio.file.Path;
import java.util.List;
import java.util.Set;
import java.util.TreeSet;
import java.util.regex.Matcher;
import java.util.regex.Pattern;

/** The calls that README.md shows answer as README.md says, and it leaves out neither a call nor a test. */
public final class ReadmeTest {
    private static final Due DUE = new Due("ReadmeTest");
    private static final String ANEW = "WaitingNets x = new WaitingNets();";
    /** A call, and behind the slashes its answer: a number or a constant's name, then perhaps words. */
    private static final Pattern CALL =
        Pattern.compile("x\\.(\\w+)\\(([^)]*)\\); +// (-?\\d+|[A-Z]+)(: .+)?");

    private final Set<String> shown = new TreeSet<>();
    private WaitingNets x = null;

    public static void main(String[] args) throws Exception {
        List<String> lines = Files.readAllLines(Path.of("README.md"));
        ReadmeTest test = new ReadmeTest();
        test.makeCalls(lines);
        test.leavesOutNoCall();
        leavesOutNoTest(String.join("\n", lines));
        DUE.end();
    }

    private void makeCalls(List<String> lines) throws Exception {
        boolean inside = false;
        for (String line : lines) {
            if (line.startsWith("```")) {
                inside = line.equals("```java");
                x = null;
            } else if (inside && line.equals(ANEW)) {
                x = new WaitingNets();
            } else if (inside) {
                makeCall(line);
            }
        }
    }

    private void makeCall(String line) throws Exception {
        Matcher call = CALL.matcher(line);
        boolean fits = call.matches() && x != null;
        DUE.is("a call with its answer: " + line, fits ? 1 : 0, 1);
        if (!fits) {
            return;
        }
        Method method = methodOf(call.group(1));
        shown.add(method.getName());
        long got = ((Number) method.invoke(x, numbers(call.group(2)))).longValue();
        DUE.is(line, got, answer(call.group(3)));
    }

    private static Method methodOf(String name) throws NoSuchMethodException {
        for (Method method : WaitingNets.class.getDeclaredMethods()) {
            if (Modifier.isPublic(method.getModifiers()) && method.getName().equals(name)) {
                return method;
            }
        }
        throw new NoSuchMethodException("README.md shows " + name);
    }

    private static Object[] numbers(String text) {
        if (text.isEmpty()) {
            return new Object[0];
        }
        String[] parts = text.split(", ");
        Object[] numbers = new Object[parts.length];
        for (int k = 0; k < parts.length; k++) {
            boolean yesOrNo = parts[k].equals("true") || parts[k].equals("false");
            numbers[k] = yesOrNo ? (Object) Boolean.valueOf(parts[k]) : (Object) Integer.valueOf(parts[k]);
        }
        return numbers;
    }

    private static long answer(String text) throws Exception {
        boolean named = Character.isLetter(text.charAt(0));
        return named ? WaitingNets.class.getField(text).getInt(null) : Long.parseLong(text);
    }

    private void leavesOutNoCall() {
        for (Method method : WaitingNets.class.getDeclaredMethods()) {
            if (Modifier.isPublic(method.getModifiers())) {
                DUE.is("README.md shows " + method.getName(), shown.contains(method.getName()) ? 1 : 0, 1);
            }
        }
    }

    private static void leavesOutNoTest(String text) {
        int found = 0;
        for (String file : new File("src/test/java").list()) {
            if (file.endsWith("Test.java")) {
                found++;
                String name = file.replace(".java", "");
                DUE.is("README.md names " + name, text.contains("`" + name + "`") ? 1 : 0, 1);
            }
        }
        DUE.is("tests were found", found > 0 ? 1 : 0, 1);
        Matcher named = Pattern.compile("`(\\w+Test)`").matcher(text);
        while (named.find()) {
            boolean there = new File("src/test/java", named.group(1) + ".java").isFile();
            DUE.is(named.group(1) + ", which README.md names, is there", there ? 1 : 0, 1);
        }
    }
}
