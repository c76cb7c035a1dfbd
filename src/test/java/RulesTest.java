import java.io.IOException;
import java.lang.reflect.Constructor;
import java.lang.reflect.Field;
import java.lang.reflect.Method;
import java.lang.reflect.Modifier;
import java.nio.file.Files;
import java.nio.file.Path;
import java.util.Arrays;
import java.util.Set;
import java.util.TreeSet;
import java.util.regex.Pattern;

/** The face and those rules of LANGUAGE.md that can be seen from the class or its source. */
public final class RulesTest {
    private static final Check CHECK = new Check();
    private static final String FACE = "feed(5)int text(1)int fault(1)int named(2)int look(2)int cell(2)int drop(2)int "
        + "far(2)int weak(2)int rise(2)int shows(2)int most(2)int law(2)long where(2)int reaches(2)int first(1)int "
        + "lie(5)int fall(3)int cut(1)boolean undo(0)int note(3)int strike(1)int known(1)boolean tales(0)int "
        + "tale(2)int likeliest(1)int fits(0)int apart(3)int looks(4)int still(5)long chance(5)int keep(0)int "
        + "back(0)int count(1)int";

    private RulesTest() {
    }

    public static void main(String[] args) throws IOException {
        CHECK.about("rule 1");
        face();
        nested();
        CHECK.about("source");
        source(Files.readString(Path.of("src/main/java/PondReader.java")));
        CHECK.end();
    }

    private static boolean isFace(int modifiers) {
        return !Modifier.isPrivate(modifiers);
    }

    private static void face() {
        Set<String> due = new TreeSet<>(Arrays.asList(FACE.split(" ")));
        Set<String> is = new TreeSet<>();
        Set<String> names = new TreeSet<>();
        for (Method method : PondReader.class.getDeclaredMethods()) {
            if (isFace(method.getModifiers())) {
                is.add(method.getName() + "(" + method.getParameterCount() + ")" + method.getReturnType());
                names.add(method.getName());
                CHECK.due(method + " is public", Modifier.isPublic(method.getModifiers()), true);
            }
        }
        CHECK.due("methods " + is, is.equals(due), true);
        for (Method method : PondReader.class.getDeclaredMethods()) {
            boolean bears = !isFace(method.getModifiers()) && names.contains(method.getName());
            CHECK.due(method + " bears a public name", bears, false);
        }
        for (Field field : PondReader.class.getDeclaredFields()) {
            boolean own = isFace(field.getModifiers());
            CHECK.due(field + " is of the face", own, field.getName().equals("NONE"));
        }
        for (Constructor<?> constructor : PondReader.class.getDeclaredConstructors()) {
            CHECK.due(constructor + " has no parameters", constructor.getParameterCount(), 0);
            CHECK.due(constructor + " is public", Modifier.isPublic(constructor.getModifiers()), true);
        }
        CHECK.due("final", Modifier.isFinal(PondReader.class.getModifiers()), true);
    }

    private static void nested() {
        Class<?>[] all = PondReader.class.getDeclaredClasses();
        CHECK.about("rule 11");
        CHECK.due("at most some twelve classes", all.length <= 13, true);
        for (Class<?> one : all) {
            CHECK.about("rule 2, " + one.getName());
            CHECK.due("static", Modifier.isStatic(one.getModifiers()), true);
            CHECK.due("not public", Modifier.isPublic(one.getModifiers()), false);
            CHECK.about("rules 5 and 11, " + one.getName());
            int fields = 0;
            for (Field field : one.getDeclaredFields()) {
                boolean still = Modifier.isStatic(field.getModifiers());
                fields += still ? 0 : 1;
                CHECK.due(field + " static, not final", still && !Modifier.isFinal(field.getModifiers()), false);
            }
            CHECK.due("some twenty fields, " + fields, fields <= 20, true);
            for (Method method : one.getDeclaredMethods()) {
                CHECK.due(method + " takes at most seven", method.getParameterCount() <= 7, true);
            }
        }
    }

    private static void source(String source) {
        String[] never = {"catch", "finally", "synchronized", "assert", "->", "::", "static \\{", "double", "float",
            "System\\.(?!arraycopy)", "Exact\\(", "instanceof", "new int\\[\\w+\\]\\[", "package ", "toString",
            "hashCode", "Random", "while \\(true\\)"};
        for (String one : never) {
            CHECK.due("has " + one, Pattern.compile(one).matcher(source).find(), false);
        }
        int imports = source.split("\nimport |^import ").length - 1;
        CHECK.due("imports", imports, 1);
    }
}
