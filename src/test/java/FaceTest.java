import java.io.IOException;
import java.lang.reflect.Constructor;
import java.lang.reflect.Executable;
import java.lang.reflect.Field;
import java.lang.reflect.Method;
import java.lang.reflect.Modifier;
import java.nio.file.Files;
import java.nio.file.Path;
import java.util.Arrays;
import java.util.Set;
import java.util.TreeSet;
import java.util.regex.Pattern;
import java.util.stream.Collectors;

/** The public face is the document's and no more; of LANGUAGE.md what a plain look at the class and its source can tell. */
public final class FaceTest {
    private static final Check CHECK = new Check("FaceTest");
    private static final String FACE = "int row(int,int) int lay(int,int,int) int at(int,int) int tear(int) "
        + "int copy(int,int,int,int,int) int mean(int) int text(int,int) int put(int,int,int) int flight(int,int) "
        + "int ends(int) int course(int,int) int plan(int) int fault(int) int story(int,int) int lies(int,int) "
        + "int far(int,int) int sign(int,int,int,int) int signs(int) int undo(int,int) int told(int,int) "
        + "int mark(int,int) int weighs(int,int) int near(int) int where(int,int) int most(int) int sure(int,int,int) "
        + "int hour(int,int) int ended(int) int falls(int,int,int) int turns(int) int truly(int,int) int cross(int) "
        + "int likelier(int,int) int line(int,int,int) int drag(int,int,int,int) int brought(int,int) int draw(int,int) "
        + "int image(int) int on(int) int asked() long upper() long lower() int count(int) int finding() "
        + "int findings(int) long digest()";
    private static final String BANNED = "throw|throws|try|catch|synchronized|assert|String|double|float|\\w+Exact|->|::|Object|Random|System\\.(?!arraycopy)";

    public static void main(String[] args) throws IOException {
        face();
        constants();
        classesInside();
        source();
        CHECK.end();
    }

    private static String parameters(Executable e) {
        return Arrays.stream(e.getParameterTypes()).map(Class::getSimpleName).collect(Collectors.joining(",", "(", ")"));
    }

    private static void face() {
        Set<String> due = new TreeSet<>(Arrays.asList(FACE.replaceAll(" (?=int |long )", ";").split(";")));
        Set<String> got = new TreeSet<>();
        Set<String> publicNames = new TreeSet<>();
        for (Method m : TwoFliers.class.getDeclaredMethods()) {
            if (!Modifier.isPrivate(m.getModifiers())) {
                got.add(m.getReturnType().getSimpleName() + " " + m.getName() + parameters(m));
                publicNames.add(m.getName());
                CHECK.due("public and not static: " + m, m.getModifiers(), Modifier.PUBLIC);
            }
        }
        CHECK.due("methods " + got, got.equals(due) ? 1 : 0, 1);
        for (Method m : TwoFliers.class.getDeclaredMethods()) {
            if (Modifier.isPrivate(m.getModifiers())) {
                CHECK.due("bears a public name: " + m, publicNames.contains(m.getName()) ? 1 : 0, 0);
            }
        }
        Constructor<?>[] constructors = TwoFliers.class.getDeclaredConstructors();
        CHECK.due("constructors", constructors.length, 1);
        CHECK.due("constructor is public", constructors[0].getModifiers(), Modifier.PUBLIC);
        CHECK.due("public final", TwoFliers.class.getModifiers(), Modifier.PUBLIC | Modifier.FINAL);
    }

    private static void constants() {
        CHECK.due("BAD", TwoFliers.BAD, -1);
        CHECK.due("FULL", TwoFliers.FULL, -2);
        CHECK.due("FINDING", TwoFliers.FINDING, -3);
        CHECK.due("STATE", TwoFliers.STATE, -4);
        CHECK.due("SPENT", TwoFliers.SPENT, -6);
        CHECK.due("NONE", TwoFliers.NONE, -9);
        int open = 0;
        for (Field f : TwoFliers.class.getDeclaredFields()) {
            open += Modifier.isPrivate(f.getModifiers()) ? 0 : 1;
        }
        CHECK.due("fields that are not private", open, 6);
    }

    private static int ownFields(Class<?> c) {
        int many = 0;
        for (Field f : c.getDeclaredFields()) {
            boolean isStatic = Modifier.isStatic(f.getModifiers());
            many += isStatic ? 0 : 1;
            CHECK.due("static but not final: " + f, isStatic && !Modifier.isFinal(f.getModifiers()) ? 1 : 0, 0);
        }
        return many;
    }

    private static void classesInside() {
        Class<?>[] inside = TwoFliers.class.getDeclaredClasses();
        CHECK.due("at most twelve classes", inside.length < 12 ? 1 : 0, 1);
        CHECK.due("at most twenty fields", ownFields(TwoFliers.class) <= 20 ? 1 : 0, 1);
        for (Class<?> c : inside) {
            CHECK.due("static: " + c, Modifier.isStatic(c.getModifiers()) ? 1 : 0, 1);
            CHECK.due("at most twenty fields: " + c, ownFields(c) <= 20 ? 1 : 0, 1);
            for (Method m : c.getDeclaredMethods()) {
                CHECK.due("at most seven parameters: " + m, m.getParameterCount() <= 7 ? 1 : 0, 1);
            }
        }
    }

    private static void source() throws IOException {
        String source = Files.readString(Path.of("src/main/java/TwoFliers.java"));
        String code = source.replaceAll("(?s)/\\*.*?\\*/", "").replaceAll("//[^\\n]*", "");
        Pattern banned = Pattern.compile("(?<!\\w)(" + BANNED + ")(?!\\w)");
        int line = 0;
        for (String s : code.split("\n")) {
            CHECK.due("outside LANGUAGE.md: " + s.trim(), banned.matcher(s).find() ? 1 : 0, 0);
        }
        int start = 0;
        for (String s : source.split("\n")) {
            line++;
            boolean opens = s.matches("    (    )?(public|private|static|void|int|long|boolean)[^=;]*\\) \\{");
            start = opens ? line : start;
            if (s.equals("    }") || s.equals("        }")) {
                CHECK.due("longer than sixty lines, to line " + line, start > 0 && line - start > 60 ? 1 : 0, 0);
                start = 0;
            }
        }
    }
}
