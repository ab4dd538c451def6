import java.lang.reflect.Constructor;
import java.lang.reflect.Field;
import java.lang.reflect.Method;
import java.lang.reflect.Modifier;
import java.nio.file.Files;
import java.nio.file.Path;
import java.util.ArrayList;
import java.util.Arrays;
import java.util.List;
import java.util.TreeSet;
import java.util.regex.Matcher;
import java.util.regex.Pattern;

/** The public face, and the rules of LANGUAGE.md that a look at the class or its text can tell. */
public final class FaceTest {
    private static final String[] METHODS = {
        "mark(int,int,boolean)", "element(int,int,int,boolean)", "fallback(int,int,int)", "container(int,int)",
        "place(int,int)", "value(int,int)", "row(int)", "push(int,int)", "instance(int)", "give(int,int,int)",
        "put(int,int)", "cause()", "told(int,int)", "part(int,int)", "equal(int,int)", "written(int)", "letter(int)",
        "ask(int,int,boolean)", "all(int,int)", "of(int,int,int)", "stands(int)", "count(int)"};
    private static final String[] CONSTANTS = {"NONE=-1", "BAD=-2", "FULL=-3", "STATE=-4", "FAILED=-5", "RING=-6"};
    private static final String[] BANNED = {
        "\\bthrow\\b", "\\bthrows\\b", "\\btry\\b", "\\bcatch\\b", "\\bsynchronized\\b", "\\bassert\\b", "->", "::",
        "Exact\\b", "\\bSystem\\.(?!arraycopy)", "\\bpackage\\b", "\\bhashCode\\b", "\\btoString\\b", "\\bstatic\\s*\\{"};

    private static final List<String> wrong = new ArrayList<>();

    public static void main(String[] args) throws Exception {
        methods();
        constants();
        constructors();
        nestedClasses();
        text();
        wrong.forEach(System.out::println);
        if (!wrong.isEmpty()) {
            System.exit(1);
        }
    }

    private static void expect(boolean holds, String otherwise) {
        if (!holds) {
            wrong.add("FaceTest: " + otherwise);
        }
    }

    private static String signature(Method method) {
        List<String> types = new ArrayList<>();
        for (Class<?> type : method.getParameterTypes()) {
            types.add(type.getSimpleName());
        }
        return method.getName() + "(" + String.join(",", types) + ")";
    }

    private static void methods() {
        TreeSet<String> open = new TreeSet<>();
        TreeSet<String> openNames = new TreeSet<>();
        for (Method method : MarkRules.class.getDeclaredMethods()) {
            if (!Modifier.isPrivate(method.getModifiers())) {
                open.add(signature(method));
                openNames.add(method.getName());
                expect(method.getReturnType() == int.class, method + " gives no int");
                expect(Modifier.isPublic(method.getModifiers()), method + " is not public");
                expect(!Modifier.isStatic(method.getModifiers()), method + " is static");
            }
        }
        expect(open.equals(new TreeSet<>(Arrays.asList(METHODS))), "the methods are " + open);
        for (Method method : MarkRules.class.getDeclaredMethods()) {
            boolean hidden = Modifier.isPrivate(method.getModifiers());
            expect(!hidden || !openNames.contains(method.getName()), method + " bears a public name");
        }
    }

    private static void constants() throws IllegalAccessException {
        TreeSet<String> open = new TreeSet<>();
        for (Field field : MarkRules.class.getDeclaredFields()) {
            int modifiers = field.getModifiers();
            if (!Modifier.isPrivate(modifiers)) {
                expect(Modifier.isPublic(modifiers) && Modifier.isStatic(modifiers), field + " is no public constant");
                open.add(field.getName() + "=" + field.getInt(null));
            }
            expect(!Modifier.isStatic(modifiers) || Modifier.isFinal(modifiers), field + " is not final");
        }
        expect(open.equals(new TreeSet<>(Arrays.asList(CONSTANTS))), "the constants are " + open);
    }

    private static void constructors() {
        Constructor<?>[] all = MarkRules.class.getDeclaredConstructors();
        expect(all.length == 1 && Modifier.isPublic(all[0].getModifiers()) && all[0].getParameterCount() == 0,
            "the constructors are " + Arrays.toString(all));
        int modifiers = MarkRules.class.getModifiers();
        expect(Modifier.isPublic(modifiers) && Modifier.isFinal(modifiers), "the class is not public and final");
    }

    private static void nestedClasses() {
        Class<?>[] nested = MarkRules.class.getDeclaredClasses();
        expect(nested.length < 12, "too many classes");
        for (Class<?> one : nested) {
            expect(Modifier.isStatic(one.getModifiers()), one + " is not static");
            expect(one.getDeclaredFields().length <= 20, one + " has too many fields");
        }
    }

    private static void text() throws Exception {
        String source = Files.readString(Path.of("src/main/java/MarkRules.java"));
        String code = source.replaceAll("(?s)/\\*.*?\\*/", "").replaceAll("//[^\n]*", "");
        for (String banned : BANNED) {
            Matcher matcher = Pattern.compile(banned).matcher(code);
            expect(!matcher.find(), "the text has " + banned);
        }
        Matcher imports = Pattern.compile("import ([^;]*);").matcher(code);
        while (imports.find()) {
            expect(imports.group(1).matches("java\\.util\\.(Arrays|ArrayList|List|Iterator)"), imports.group());
        }
    }
}
