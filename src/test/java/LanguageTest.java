import java.io.IOException;
import java.lang.reflect.Constructor;
import java.lang.reflect.Field;
import java.lang.reflect.Method;
import java.lang.reflect.Modifier;
import java.nio.charset.StandardCharsets;
import java.nio.file.Files;
import java.nio.file.Path;
import java.util.ArrayList;
import java.util.List;
import java.util.Set;
import java.util.TreeSet;
import java.util.regex.Matcher;
import java.util.regex.Pattern;

/** What of ../shared/LANGUAGE.md a machine can see: the face, the classes inside, and words that may not stand in the source. */
public final class LanguageTest {
    private static final Path SOURCE = Path.of("src/main/java/SidesChange.java");
    private static final String[] FACE = {"int suit(int,int)", "int bows(int,int)", "int point(int,int,int)", "int type(int)",
        "int clear()", "int read()", "int says(int)", "int objects()", "int undo()", "int now(int)", "int of(int,int)",
        "int about(int,int)", "int moves(int)", "int play(int)", "int proof(int)", "int ends(int)", "int bowed(int)",
        "int note(int,int,int,int,int)", "int mark(int,int,int,int)", "int forget(int)", "int is(int)", "int look(int)",
        "int kinds(int)", "int ask(int)", "int settle(int)", "int hearings(int)", "int days(int,int)", "long part(int)",
        "int image(int)", "int from(int)", "int status(int)", "int count(int)", "long digest()"};
    private static final String[] FORBIDDEN = {"\\bthrow\\b", "\\bthrows\\b", "\\btry\\b", "\\bcatch\\b", "\\bfinally\\b",
        "\\bsynchronized\\b", "\\bassert\\b", "\\bpackage\\b", "->", "::", "\\bimport\\b(?! java\\.util\\.(ArrayList|List|Arrays);)",
        "\\bSystem\\.(?!arraycopy\\b)", "\\bThread\\b", "Exact\\b", "\\bstatic \\{", "\\bhashCode\\b", "\\btoString\\b", "@",
        "[^\\x00-\\x7f]", "\\bObject\\b", "\\bnew [A-Z]\\w*\\([^;]*\\) \\{"};
    private static int wrong = 0;

    public static void main(String[] args) throws IOException {
        String source = Files.readString(SOURCE, StandardCharsets.UTF_8);
        face();
        classesInside();
        words(withoutComments(source));
        lengths(source);
        System.out.println("LanguageTest: " + (wrong == 0 ? "nothing is wrong" : wrong + " wrong"));
        if (wrong != 0) {
            System.exit(1);
        }
    }

    private static void check(boolean fine, String what) {
        if (!fine) {
            wrong++;
            System.out.println(what);
        }
    }

    private static String told(Method method) {
        StringBuilder told = new StringBuilder(method.getReturnType() + " " + method.getName() + "(");
        for (Class<?> type : method.getParameterTypes()) {
            told.append(told.charAt(told.length() - 1) == '(' ? "" : ",").append(type);
        }
        return told.append(")").toString();
    }

    private static void face() {
        Set<String> open = new TreeSet<>();
        Set<String> names = new TreeSet<>();
        for (Method method : SidesChange.class.getDeclaredMethods()) {
            if (!Modifier.isPrivate(method.getModifiers())) {
                open.add(told(method));
                names.add(method.getName());
                check(!Modifier.isStatic(method.getModifiers()), method + " is static");
            }
        }
        check(open.equals(new TreeSet<>(List.of(FACE))), "the face is " + open);
        for (Class<?> one : classes()) {
            for (Method method : one.getDeclaredMethods()) {
                boolean own = one == SidesChange.class && !Modifier.isPrivate(method.getModifiers());
                check(own || !names.contains(method.getName()), method + " bears a name of the face");
                check(method.getParameterCount() <= 7, method + " takes too many");
            }
        }
        Set<String> constants = new TreeSet<>();
        for (Field field : SidesChange.class.getDeclaredFields()) {
            if (!Modifier.isPrivate(field.getModifiers())) {
                constants.add(field.getName());
            }
        }
        check(constants.equals(new TreeSet<>(List.of("NONE", "BAD", "NO", "FULL"))), "constants: " + constants);
        Constructor<?>[] made = SidesChange.class.getDeclaredConstructors();
        check(made.length == 1 && Modifier.isPublic(made[0].getModifiers()), "constructors");
        int how = SidesChange.class.getModifiers();
        check(Modifier.isPublic(how) && Modifier.isFinal(how), "the class is not public and final");
    }

    private static List<Class<?>> classes() {
        List<Class<?>> all = new ArrayList<>();
        all.add(SidesChange.class);
        all.addAll(List.of(SidesChange.class.getDeclaredClasses()));
        return all;
    }

    private static void classesInside() {
        check(classes().size() <= 12, "too many classes");
        for (Class<?> one : classes()) {
            int fields = 0;
            for (Field field : one.getDeclaredFields()) {
                boolean constant = Modifier.isStatic(field.getModifiers());
                check(!constant || Modifier.isFinal(field.getModifiers()), field + " is static and not final");
                fields += constant ? 0 : 1;
            }
            check(fields <= 20, one + " has too many fields");
            if (one != SidesChange.class) {
                check(Modifier.isStatic(one.getModifiers()) && !Modifier.isPublic(one.getModifiers()), one + " is not as told");
                check(one.getDeclaredClasses().length == 0, one + " has classes inside");
            }
        }
    }

    private static String withoutComments(String source) {
        return source.replaceAll("(?s)/\\*.*?\\*/", "").replaceAll("//[^\n]*", "");
    }

    private static void words(String code) {
        for (String word : FORBIDDEN) {
            Matcher found = Pattern.compile(word).matcher(code);
            check(!found.find(), "the source has what " + word + " forbids");
        }
    }

    private static void lengths(String source) {
        Pattern head = Pattern.compile("( {4}| {8})(?!if|for|while|switch|else|do\\b)[a-z].*\\) \\{");
        int[] starts = new int[9];
        int number = 0;
        int methods = 0;
        for (String line : source.split("\n", -1)) {
            number++;
            check(line.length() <= 140, "line " + number + " is long");
            Matcher found = head.matcher(line);
            if (found.matches()) {
                starts[found.group(1).length()] = number;
                methods++;
            } else if (line.matches("( {4}| {8})\\}") && starts[line.length() - 1] > 0) {
                check(number - starts[line.length() - 1] <= 60, "the method that ends in line " + number + " is long");
                starts[line.length() - 1] = 0;
            }
        }
        check(methods > 33, "the lengths were not seen");
    }
}
