import java.lang.reflect.Constructor;
import java.lang.reflect.Field;
import java.lang.reflect.Method;
import java.lang.reflect.Modifier;
import java.nio.file.Files;
import java.nio.file.Path;
import java.util.Set;
import java.util.TreeSet;
import java.util.regex.Matcher;
import java.util.regex.Pattern;

/** The rules of LANGUAGE.md that a test can look at. Run from the project's folder. */
public final class LanguageTest {
    private static final Set<String> PUBLIC_METHODS = Set.of("set", "snap", "fit", "want", "read", "pay", "give",
        "send", "pass", "shuffle", "member", "strings", "parcel", "count", "order", "share", "ifMore", "bestParting",
        "standIn", "untilHome", "put", "wipe", "fault", "undo", "save", "restore");
    private static final String[] FORBIDDEN = {"\\bthrow\\b", "\\btry\\b", "\\bcatch\\b", "\\bfinally\\b",
        "\\bsynchronized\\b", "\\bassert\\b", "\\bpackage\\b", "->", "::", "\\bvar\\b", "\\w+Exact\\b", "\\bSystem\\.(?!arraycopy)",
        "\\bThread\\b", "\\bRandom\\b", "\\bequals\\b", "\\bhashCode\\b", "\\btoString\\b", "\\bObject\\b", "@", "\"",
        "\\bstatic\\s*\\{", "\\bnew\\s+\\w+\\([^)]*\\)\\s*\\{", "\\bjava\\.(?!util\\.\\w+;)", "\\bvolatile\\b", "\\btransient\\b", "\\bnative\\b"};
    private static final Set<Class<?>> CONSTANT_TYPES = Set.of(int.class, long.class, boolean.class, char.class,
        String.class, int[].class, long[].class, char[].class, byte[].class);
    private static final Check check = new Check();

    public static void main(String[] args) throws Exception {
        String text = Files.readString(Path.of("src/main/java/HarpOrders.java"));
        words(text);
        lengths(text.split("\n"));
        face();
        for (Class<?> inside : HarpOrders.class.getDeclaredClasses()) {
            inside(inside);
        }
        check.due("classes", HarpOrders.class.getDeclaredClasses().length <= 11 ? 1 : 0, 1);
        check.end();
    }

    private static void words(String text) {
        check.about("words");
        check.holds("characters 0 to 127", text.chars().allMatch(c -> c < 128));
        String code = text.replaceAll("(?s)/\\*.*?\\*/", "").replaceAll("//[^\n]*", "");
        for (String word : FORBIDDEN) {
            Matcher found = Pattern.compile(word).matcher(code);
            check.holds("no " + word, !found.find());
        }
        Matcher imports = Pattern.compile("import\\s+([\\w.]+);").matcher(code);
        while (imports.find()) {
            check.holds(imports.group(1), Set.of("java.util.Arrays", "java.util.ArrayList", "java.util.List").contains(imports.group(1)));
        }
    }

    /** A method begins behind a line that ends with ") {" at the depth of a class, and ends with "}" at that depth. */
    private static void lengths(String[] lines) {
        check.about("lengths");
        int begun = -1;
        String margin = "";
        for (int i = 0; i < lines.length; i++) {
            Matcher head = Pattern.compile("( {4}| {8})(?!if|for|while|switch|\\})\\w.*\\) \\{").matcher(lines[i]);
            if (begun < 0 && head.matches()) {
                begun = i;
                margin = head.group(1);
            } else if (begun >= 0 && lines[i].equals(margin + "}")) {
                check.holds("sixty lines at most: " + lines[begun].trim(), i - begun - 1 <= 60);
                begun = -1;
            }
        }
        check.due("a method that does not end", begun, -1);
    }

    private static void face() {
        check.about("face");
        Class<?> program = HarpOrders.class;
        check.holds("final", Modifier.isFinal(program.getModifiers()));
        Set<String> methods = new TreeSet<>();
        for (Method method : program.getDeclaredMethods()) {
            boolean isPublic = Modifier.isPublic(method.getModifiers());
            check.holds("public or private: " + method, isPublic || Modifier.isPrivate(method.getModifiers()));
            check.holds("not another public one: " + method, isPublic == PUBLIC_METHODS.contains(method.getName()));
            if (isPublic) {
                methods.add(method.getName());
                check.holds("an int: " + method, method.getReturnType() == int.class);
            }
        }
        check.holds("all methods", methods.equals(PUBLIC_METHODS));
        Constructor<?>[] constructors = program.getDeclaredConstructors();
        check.due("constructors", constructors.length, 1);
        check.holds("public constructor", Modifier.isPublic(constructors[0].getModifiers()));
        int constants = 0;
        for (Field field : program.getDeclaredFields()) {
            if (Modifier.isPublic(field.getModifiers())) {
                constants++;
                check.holds("a constant: " + field, Modifier.isStatic(field.getModifiers()) && field.getType() == int.class);
            } else {
                check.holds("private: " + field, Modifier.isPrivate(field.getModifiers()));
            }
        }
        check.due("constants", constants, 15);
        fields(program);
    }

    /** A number, a boolean, a text, an own class; one row of these, or a table of numbers. */
    private static boolean isFieldType(Class<?> type) {
        Class<?> element = type.isArray() ? type.getComponentType() : type;
        if (element.isArray()) {
            return element.getComponentType().isPrimitive() && element.getComponentType() != boolean.class;
        }
        return element.isPrimitive() || element == String.class || element.getEnclosingClass() == HarpOrders.class;
    }

    private static void inside(Class<?> inside) {
        check.about(inside.getName());
        check.holds("static", Modifier.isStatic(inside.getModifiers()));
        check.holds("no class inside", inside.getDeclaredClasses().length == 0);
        for (Method method : inside.getDeclaredMethods()) {
            check.holds("no name of the face: " + method, !PUBLIC_METHODS.contains(method.getName()));
            check.holds("seven parameters at most: " + method, method.getParameterCount() <= 7);
        }
        fields(inside);
    }

    private static void fields(Class<?> owner) {
        int many = 0;
        for (Field field : owner.getDeclaredFields()) {
            if (Modifier.isStatic(field.getModifiers())) {
                check.holds("final: " + field, Modifier.isFinal(field.getModifiers()));
                check.holds("a constant's type: " + field, CONSTANT_TYPES.contains(field.getType()));
            } else {
                many++;
                check.holds("a field's type: " + field, isFieldType(field.getType()));
            }
        }
        check.holds("some twenty fields", many <= 20);
    }
}
