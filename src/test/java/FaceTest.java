import java.io.IOException;
import java.lang.reflect.Field;
import java.lang.reflect.Method;
import java.lang.reflect.Modifier;
import java.nio.charset.StandardCharsets;
import java.nio.file.Files;
import java.nio.file.Path;
import java.util.ArrayList;
import java.util.Arrays;
import java.util.List;
import java.util.Set;
import java.util.TreeSet;
import java.util.regex.Pattern;

/** The public face, and the rules of the language that the source text or the class itself shows. */
public final class FaceTest {
    private static final Due DUE = new Due("FaceTest");
    private static final Path SOURCE = Path.of("src", "main", "java", "WaitingNets.java");

    private static final String[] METHODS = {
        "int row(int, int)", "int lay(int, int, int)", "int tear(int)", "int copy(int, int, int, int, int)",
        "int average(int)", "int counter(int, int)", "int drop(int)", "int rate(int, int)",
        "int hands(int, int)", "int room(int, int)", "int way(int, int, int)", "int comes(int, int)",
        "int told(int, int)", "int mark(int, int)", "int product()", "int kept()", "int flow(int)",
        "int use(int)", "int mean(int, boolean)", "int closed()", "int visits(int)", "int chance(int)",
        "int through(int, int)", "int meanOf(int, int)", "int round(int, int)", "int narrow()",
        "int bound(int, int)", "int best(int)", "int balance(int)", "int ranked(int, int, int, boolean, int)",
        "int roomed(int, int, int)", "int lasting(int, int)", "int parts(int)", "int judge(int, int)",
        "int waited(int, int, int, int)", "int seen(int, int, int)", "int asked()", "long upper()",
        "long lower()", "int count(int)", "int finding()", "int findings(int)", "long digest()"};
    private static final String[] CONSTANTS = {"BAD -1", "FINDING -3", "FULL -2", "NONE -9", "STATE -4"};

    /** Words that rules 2, 3, 4, 5, 6 and 13 leave no room for. */
    private static final String[] RULED_OUT = {
        "\\bthrow\\b", "\\bthrows\\b", "\\btry\\b", "\\bcatch\\b", "\\bsynchronized\\b", "\\bassert\\b",
        "->", "::", "\\bprotected\\b", "\\bpackage\\b", "\\bimport\\b", "\\bstatic\\s*\\{", "Exact\\b",
        "\\bdouble\\b", "\\bfloat\\b", "\\bvar\\b", "\\bhashCode\\b", "\\btoString\\b", "\\bThread\\b",
        "\\bRandom\\b", "\\bSystem\\.(?!arraycopy)", "\\bwhile\\s*\\(true\\)"};

    public static void main(String[] args) throws Exception {
        face();
        constants();
        insides();
        source();
        DUE.end();
    }

    private static void held(String what, boolean holds) {
        DUE.is(what, holds ? 1 : 0, 1);
    }

    private static void face() {
        Class<?> type = WaitingNets.class;
        held("public and final", Modifier.isPublic(type.getModifiers()) && Modifier.isFinal(type.getModifiers()));
        Set<String> due = new TreeSet<>(Arrays.asList(METHODS));
        Set<String> there = new TreeSet<>();
        for (Method m : type.getDeclaredMethods()) {
            if (Modifier.isPublic(m.getModifiers())) {
                held(m + " is no static one", !Modifier.isStatic(m.getModifiers()));
                List<String> types = new ArrayList<>();
                for (Class<?> p : m.getParameterTypes()) types.add(p.getSimpleName());
                there.add(m.getReturnType().getSimpleName() + " " + m.getName() + "(" + String.join(", ", types) + ")");
            } else {
                held(m + " is private", Modifier.isPrivate(m.getModifiers()));
            }
        }
        held("the public methods " + there, due.equals(there));
        held("one constructor", type.getDeclaredConstructors().length == 1);
        int constructor = type.getDeclaredConstructors()[0].getModifiers();
        held("a public constructor without parameters",
            Modifier.isPublic(constructor) && type.getDeclaredConstructors()[0].getParameterCount() == 0);
    }

    private static void constants() throws IllegalAccessException {
        Set<String> there = new TreeSet<>();
        for (Field f : WaitingNets.class.getDeclaredFields()) {
            int m = f.getModifiers();
            if (Modifier.isPublic(m)) {
                held(f + " is an int constant",
                    Modifier.isStatic(m) && Modifier.isFinal(m) && f.getType() == int.class);
                there.add(f.getName() + " " + f.getInt(null));
            } else {
                held(f + " is private", Modifier.isPrivate(m));
                held(f + " is no static state", !Modifier.isStatic(m) || Modifier.isFinal(m));
            }
        }
        held("the constants " + there, there.equals(new TreeSet<>(Arrays.asList(CONSTANTS))));
    }

    private static void insides() {
        Set<String> names = new TreeSet<>();
        for (String m : METHODS) names.add(m.replaceAll("^\\w+ (\\w+)\\(.*", "$1"));
        List<Class<?>> all = new ArrayList<>(Arrays.asList(WaitingNets.class.getDeclaredClasses()));
        held("at most twelve classes", all.size() < 12);
        for (Class<?> inside : all) {
            held(inside + " is static", Modifier.isStatic(inside.getModifiers()));
            held(inside + " has few fields", inside.getDeclaredFields().length <= 20);
            for (Method m : inside.getDeclaredMethods()) {
                held(m + " bears no public name", !names.contains(m.getName()));
            }
        }
        all.add(WaitingNets.class);
        for (Class<?> type : all) {
            for (Method m : type.getDeclaredMethods()) {
                held(m + " takes at most seven", m.getParameterCount() <= 7);
                held(m + " bears no public name", Modifier.isPublic(m.getModifiers()) || !names.contains(m.getName()));
            }
        }
    }

    private static void source() throws IOException {
        String text = Files.readString(SOURCE, StandardCharsets.ISO_8859_1);
        held("signs 1 to 127 alone", text.chars().allMatch(sign -> sign >= 1 && sign <= 127));
        String code = text.replaceAll("(?s)/\\*.*?\\*/", "").replaceAll("//[^\n]*", "");
        for (String word : RULED_OUT) {
            held("no " + word, !Pattern.compile(word).matcher(code).find());
        }
        methods(code.split("\n"));
    }

    /** Methods stay short, and an object is made by a field or a constructor alone. */
    private static void methods(String[] lines) {
        Pattern head = Pattern.compile("( {4}| {8})(?!if|for|switch|while|else)[\\w\\[\\]<> ]+\\(.*\\) \\{");
        int begun = -1;
        String end = "";
        int many = 0;
        for (int i = 0; i < lines.length; i++) {
            if (begun < 0 && head.matcher(lines[i]).matches()) {
                begun = i;
                end = lines[i].replaceAll("\\S.*", "}");
                many++;
            }
            boolean constructor = begun >= 0 && lines[begun].matches(" +(public )?[A-Z]\\w*\\(\\) \\{");
            held("an object is made once: " + lines[i].trim(),
                !lines[i].contains("new ") || (begun < 0 && lines[i].contains("final ")) || constructor);
            if (begun >= 0 && lines[i].equals(end)) {
                held(lines[begun].trim() + " is short", i - begun < 60);
                begun = -1;
            }
        }
        held("the methods were found", many > METHODS.length && begun < 0);
    }
}
