import java.lang.reflect.Constructor;
import java.lang.reflect.Field;
import java.lang.reflect.Method;
import java.lang.reflect.Modifier;
import java.nio.file.Files;
import java.nio.file.Path;
import java.util.ArrayList;
import java.util.Arrays;
import java.util.List;
import java.util.TreeSet;
import java.util.regex.Matcher;
import java.util.regex.Pattern;

/** What a program can see of ../shared/LANGUAGE.md: the face, and words that the source must not have. */
public final class LanguageTest {
    private static final List<String> FACE = List.of(
        "write 3", "fill 4", "copy 5", "merge 2", "branch 1", "leave 1", "back 1", "forget 1", "share 0", "set 2",
        "read 2", "stateOf 2", "number 1", "blockAt 2", "blockOf 2", "head 1", "unlike 3", "like 1", "before 2",
        "conflicts 2", "frees 1", "heaviest 1", "count 1", "undo 0", "type 1", "clearText 0", "fault 1", "play 0");
    private static final List<String> CONSTANTS = List.of(
        "INVALID_ARGUMENT", "LIMIT_REACHED", "NOT_FOUND", "NOT_POSSIBLE");
    private static final List<String> NOT_ALLOWED = List.of(
        "import", "package", "throw", "throws", "try", "catch", "finally", "synchronized", "assert", "volatile",
        "instanceof", "float", "double", "Object", "equals", "hashCode", "toString", "->", "::", "@", "\\+ *\"",
        "\" *\\+", "Exact", "System\\.(?!arraycopy)", "Thread", "Random");

    private static int wrong = 0;

    private static void check(boolean right, String what) {
        if (!right) {
            wrong++;
            System.out.println(what);
        }
    }

    private static boolean isPrivate(int modifiers) {
        return Modifier.isPrivate(modifiers);
    }

    private static void checkFace() {
        Class<?> program = SharedStates.class;
        check(Modifier.isPublic(program.getModifiers()) && Modifier.isFinal(program.getModifiers()), "not public and final");
        List<String> methods = new ArrayList<>();
        for (Method method : program.getDeclaredMethods()) {
            if (isPrivate(method.getModifiers())) {
                check(FACE.stream().noneMatch(due -> due.startsWith(method.getName() + " ")), "private " + method.getName());
                continue;
            }
            check(Modifier.isPublic(method.getModifiers()) && !Modifier.isStatic(method.getModifiers())
                && method.getReturnType() == int.class
                && Arrays.stream(method.getParameterTypes()).allMatch(t -> t == int.class), "the kind of " + method);
            methods.add(method.getName() + " " + method.getParameterCount());
        }
        check(methods.size() == FACE.size() && methods.containsAll(FACE), "the methods are " + methods);
        List<String> constants = new ArrayList<>();
        for (Field field : program.getDeclaredFields()) {
            if (!isPrivate(field.getModifiers())) {
                constants.add(field.getName());
                check(field.getModifiers() == (Modifier.PUBLIC | Modifier.STATIC | Modifier.FINAL)
                    && field.getType() == int.class, "the kind of " + field);
            }
        }
        check(new TreeSet<>(constants).equals(new TreeSet<>(CONSTANTS)), "the constants are " + constants);
        Constructor<?>[] made = program.getDeclaredConstructors();
        check(made.length == 1 && made[0].getParameterCount() == 0 && Modifier.isPublic(made[0].getModifiers()),
            "the constructors are " + Arrays.toString(made));
    }

    private static void checkClasses() {
        Class<?>[] inside = SharedStates.class.getDeclaredClasses();
        check(inside.length < 12, inside.length + " classes");
        for (Class<?> one : inside) {
            check(Modifier.isStatic(one.getModifiers()) && !Modifier.isPublic(one.getModifiers())
                && !Modifier.isProtected(one.getModifiers()), "the kind of " + one);
            check(one.getDeclaredFields().length <= 20, "the fields of " + one);
            for (Field field : one.getDeclaredFields()) {
                check(!Modifier.isStatic(field.getModifiers()), "static " + field);
            }
            for (Method method : one.getDeclaredMethods()) {
                check(method.getParameterCount() <= 7, "the parameters of " + method);
            }
        }
    }

    private static void checkWords(String source) {
        String code = source.replaceAll("(?s)/\\*.*?\\*/", " ").replaceAll("//[^\n]*", " ");
        for (String word : NOT_ALLOWED) {
            String pattern = Character.isLetter(word.charAt(0)) && word.matches("\\w+") ? "\\b" + word + "\\b" : word;
            check(!Pattern.compile(pattern).matcher(code).find(), "the source has " + word);
        }
        check(source.chars().allMatch(c -> c == '\n' || c >= 32 && c < 127), "the source has an odd character");
    }

    /** A method's lines, told by the indentation that the file keeps to. */
    private static void checkLengths(String source) {
        Matcher bodies = Pattern.compile("(?m)^( {4}| {8})[^ /*}][^\n;=]*\\) \\{\n((?:(?!\\1\\}).*\n)*)\\1\\}").matcher(source);
        int found = 0;
        while (bodies.find()) {
            found++;
            check(bodies.group(2).lines().count() <= 60, "too long: " + bodies.group().lines().findFirst().get());
        }
        check(found > FACE.size(), "only " + found + " methods were found");
    }

    public static void main(String[] args) throws Exception {
        String source = Files.readString(Path.of("src/main/java/SharedStates.java"));
        checkFace();
        checkClasses();
        checkWords(source);
        checkLengths(source);
        System.out.println(wrong == 0 ? "the language is kept to" : wrong + " rules are broken");
        if (wrong != 0) {
            System.exit(1);
        }
    }
}
