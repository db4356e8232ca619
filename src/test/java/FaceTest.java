import java.io.IOException;
import java.lang.reflect.Constructor;
import java.lang.reflect.Field;
import java.lang.reflect.Method;
import java.lang.reflect.Modifier;
import java.nio.file.Files;
import java.nio.file.Path;
import java.util.Set;
import java.util.TreeSet;
import java.util.regex.Matcher;
import java.util.regex.Pattern;

/** The public face of the document, and the rules of LANGUAGE.md that can be seen from outside. */
public final class FaceTest {
    private static final Path SOURCE = Path.of("src/main/java/ClockZones.java");
    private static final String[] FACE = {"all 1", "zero 1", "keep 4", "pass 1", "back 1", "set 3",
        "free 2", "follow 3", "meet 2", "hull 2", "copy 2", "empty 1", "widest 3", "has 4",
        "size 1", "next 2", "within 2", "touch 2"};
    private static final String[] BARRED = {"import", "package", "throw", "throws", "try", "catch",
        "synchronized", "assert", "instanceof", "float", "double", "String", "Math", "Integer",
        "System", "Arrays", "Object", "null", "interface", "enum", "record", "protected", "this"};

    public static void main(String[] args) throws IOException {
        Class<ClockZones> face = ClockZones.class;
        int m = face.getModifiers();
        Check.same("public and final", Modifier.isPublic(m) && Modifier.isFinal(m), true);
        Check.due("nested classes", face.getDeclaredClasses().length, 0);
        constructor(face);
        methods(face);
        fields(face);
        source();
        Check.end();
    }

    private static void constructor(Class<?> face) {
        Constructor<?>[] all = face.getDeclaredConstructors();
        Check.due("constructors", all.length, 1);
        Check.due("its parameters", all[0].getParameterCount(), 0);
        Check.same("it is public", Modifier.isPublic(all[0].getModifiers()), true);
    }

    private static void methods(Class<?> face) {
        Set<String> open = new TreeSet<>();
        Set<String> openNames = new TreeSet<>();
        Set<String> hiddenNames = new TreeSet<>();
        for (Method method : face.getDeclaredMethods()) {
            boolean isPublic = Modifier.isPublic(method.getModifiers());
            boolean isPrivate = Modifier.isPrivate(method.getModifiers());
            Check.same(method + " public or private", isPublic || isPrivate, true);
            Check.same(method + " at most 7", method.getParameterCount() <= 7, true);
            (isPublic ? openNames : hiddenNames).add(method.getName());
            if (isPublic) {
                open.add(method.getName() + " " + method.getParameterCount());
                Check.same(method + " answers int", method.getReturnType() == int.class, true);
                Check.same(method + " static", Modifier.isStatic(method.getModifiers()), false);
                for (Class<?> type : method.getParameterTypes()) {
                    Check.same(method + " takes ints", type == int.class, true);
                }
            }
        }
        Check.same("public methods", open, new TreeSet<>(Set.of(FACE)));
        hiddenNames.retainAll(openNames);
        Check.same("names both public and private", hiddenNames, Set.of());
    }

    private static void fields(Class<?> face) {
        for (Field field : face.getDeclaredFields()) {
            int m = field.getModifiers();
            Class<?> type = field.getType();
            boolean whole = type == int.class || type == long.class;
            Check.same(field + " private", Modifier.isPrivate(m), true);
            if (Modifier.isStatic(m)) {
                Check.same(field + " a constant", Modifier.isFinal(m) && whole, true);
            }
        }
    }

    private static void source() throws IOException {
        String text = Files.readString(SOURCE);
        String code = text.replaceAll("(?s)/\\*.*?\\*/", "").replaceAll("//[^\n]*", "");
        for (String word : BARRED) {
            Matcher found = Pattern.compile("\\b" + word + "\\b").matcher(code);
            Check.same("the word " + word + " in the source", found.find(), false);
        }
        Check.same("a text in the source", code.contains("\""), false);
        boolean arrow = code.contains("->") || code.contains("::");
        Check.same("a lambda or method reference", arrow, false);
    }
}
