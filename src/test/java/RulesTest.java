import java.io.IOException;
import java.lang.reflect.Constructor;
import java.lang.reflect.Field;
import java.lang.reflect.Method;
import java.lang.reflect.Modifier;
import java.nio.charset.StandardCharsets;
import java.nio.file.Files;
import java.nio.file.Path;
import java.util.ArrayList;
import java.util.Arrays;
import java.util.List;
import java.util.Set;
import java.util.TreeSet;
import java.util.regex.Matcher;
import java.util.regex.Pattern;

/** The document's public face, member by member, and those rules of LANGUAGE.md that a look at the class can tell. */
public final class RulesTest {
    private static final String[] FACE = {
        "point(int, int, int, int)", "miss(int)", "clear(int)", "at(int, int, int)", "points(int, boolean)",
        "mend(int)", "grid(int, int, int)", "off(int, int, boolean)", "apart(int, int, int)",
        "sheet(int, int, int)", "put(int, int, int)", "bits(int, int, long)", "copy(int, int, int, int, int)",
        "lay(int, int)", "fit(int, int, int)", "drop(int)", "as(int, int)", "held(int, int)",
        "missOf(int, boolean)", "way(int, int)", "middle(int, boolean, boolean)", "ask(int, int)", "level(int)",
        "more(int, int, int, int)", "frame(int, int, int, int, int, int)", "axis(int, int)",
        "inFrame(int, int, int)", "corner(int, int)", "open()", "nearest(int, int)", "far(int, int, boolean)",
        "box(int, int, int, int, int, int)", "unbox()", "move(int, int, int)", "path(int)", "told(int)"};
    private static final Set<String> LIBRARY = Set.of("Math.abs", "Math.min", "Math.max", "Math.floorDiv",
        "System.arraycopy");
    private static final String[] BANNED = {"\\bimport\\b", "\\bpackage\\b", "->", "::", "Exact\\b", "\\bcatch\\b",
        "\\btry\\b", "\\bfinally\\b", "\\bthrow\\b", "\\bsynchronized\\b", "\\bassert\\b", "\\bprotected\\b",
        "\\bdouble\\b", "\\bfloat\\b", "\\bvolatile\\b", "\\bnative\\b", "\\bvar\\b", "\\bObject\\b",
        "\\bstatic\\s*\\{", "\\bnew\\s+\\w+\\s*\\([^)]*\\)\\s*\\{"};
    private static final int METHOD_LINES = 60;
    private static final int CLASSES = 12;
    private static final int FIELDS = 20;
    private static final int PARAMETERS = 7;

    private static int wrong = 0;

    public static void main(String[] args) throws IOException {
        face();
        for (Class<?> own : ownClasses()) {
            members(own);
        }
        check(ownClasses().size() <= CLASSES, "rule 11: more classes than " + CLASSES);
        source(Files.readString(Path.of("src/main/java/TouchBench.java"), StandardCharsets.UTF_8));
        System.out.println(wrong == 0 ? "the face and the rules are kept" : wrong + " breaches");
        if (wrong != 0) {
            System.exit(1);
        }
    }

    private static void check(boolean kept, String breach) {
        if (!kept) {
            wrong++;
            System.out.println(breach);
        }
    }

    private static List<Class<?>> ownClasses() {
        List<Class<?>> all = new ArrayList<>();
        all.add(TouchBench.class);
        all.addAll(Arrays.asList(TouchBench.class.getDeclaredClasses()));
        return all;
    }

    private static void face() {
        int kind = TouchBench.class.getModifiers();
        check(Modifier.isPublic(kind) && Modifier.isFinal(kind), "the class is not public and final");
        Constructor<?>[] made = TouchBench.class.getDeclaredConstructors();
        check(made.length == 1 && Modifier.isPublic(made[0].getModifiers()) && made[0].getParameterCount() == 0,
            "the constructor is not the document's");
        Set<String> found = new TreeSet<>();
        for (Method method : TouchBench.class.getDeclaredMethods()) {
            if (!Modifier.isPrivate(method.getModifiers())) {
                check(method.getReturnType() == long.class && !Modifier.isStatic(method.getModifiers()),
                    method + " is not the document's");
                found.add(signature(method));
            }
        }
        check(found.equals(new TreeSet<>(Arrays.asList(FACE))), "the face is " + found);
        for (Field field : TouchBench.class.getDeclaredFields()) {
            check(Modifier.isPrivate(field.getModifiers()), "rule 1: " + field + " can be seen");
        }
    }

    private static String signature(Method method) {
        StringBuilder text = new StringBuilder(method.getName()).append('(');
        for (Class<?> type : method.getParameterTypes()) {
            text.append(text.charAt(text.length() - 1) == '(' ? "" : ", ").append(type.getSimpleName());
        }
        return text.append(')').toString();
    }

    private static void members(Class<?> own) {
        check(own == TouchBench.class || Modifier.isStatic(own.getModifiers()), "rule 1: " + own + " is not static");
        Set<String> publicNames = new TreeSet<>();
        for (String signature : FACE) {
            publicNames.add(signature.substring(0, signature.indexOf('(')));
        }
        for (Method method : own.getDeclaredMethods()) {
            check(method.getParameterCount() <= PARAMETERS, "rule 11: " + method + " takes too much");
            boolean ofFace = own == TouchBench.class && Modifier.isPublic(method.getModifiers());
            check(ofFace || !publicNames.contains(method.getName()), "rule 1: " + method + " bears a public name");
        }
        int fields = 0;
        for (Field field : own.getDeclaredFields()) {
            if (Modifier.isStatic(field.getModifiers())) {
                Class<?> type = field.getType();
                check(Modifier.isFinal(field.getModifiers()), "rule 5: " + field + " is not final");
                check(type == int.class || type == long.class || type == int[].class, "rule 5: " + field);
            } else {
                fields++;
            }
        }
        check(fields <= FIELDS, "rule 11: " + own + " has " + fields + " fields");
    }

    private static void source(String text) {
        for (int i = 0; i < text.length(); i++) {
            check(text.charAt(i) < 128, "a sign beyond 127 at " + i);
        }
        String code = text.replaceAll("(?s)/\\*.*?\\*/", "").replaceAll("//[^\n]*", "");
        for (String banned : BANNED) {
            Matcher matcher = Pattern.compile(banned).matcher(code);
            check(!matcher.find(), "banned: " + banned);
        }
        Set<String> own = new TreeSet<>();
        for (Class<?> type : ownClasses()) {
            own.add(type.getSimpleName());
        }
        Matcher call = Pattern.compile("\\b([A-Z]\\w*[a-z]\\w*)\\.(\\w+)").matcher(code);
        while (call.find()) {
            check(own.contains(call.group(1)) || LIBRARY.contains(call.group()), "rule 4: " + call.group());
        }
        Matcher endless = Pattern.compile("\\b(while|do)\\b|for\\s*\\([^;]*;\\s*;").matcher(code);
        check(!endless.find(), "rule 9: a loop that is not a counted for");
        methodLengths(text);
    }

    /** A method's head stands at a depth of four or eight spaces, and its end as deep. */
    private static void methodLengths(String text) {
        String[] lines = text.split("\n");
        int from = -1;
        String end = "";
        for (int i = 0; i < lines.length; i++) {
            if (from < 0 && lines[i].matches("( {4}| {8})[a-zA-Z][^=;]*\\(.*\\) \\{")) {
                from = i;
                end = lines[i].replaceAll("\\S.*", "") + "}";
            } else if (from >= 0 && lines[i].equals(end)) {
                check(i - from < METHOD_LINES, "rule 11: a method of " + (i - from + 1) + " lines at " + (from + 1));
                from = -1;
            }
        }
        check(from < 0, "the end of the method at line " + (from + 1) + " was not found");
    }
}
