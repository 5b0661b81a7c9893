import java.io.IOException;
import java.lang.reflect.Constructor;
import java.lang.reflect.Field;
import java.lang.reflect.Method;
import java.lang.reflect.Modifier;
import java.nio.file.Files;
import java.nio.file.Path;
import java.util.Arrays;
import java.util.List;
import java.util.Set;
import java.util.TreeSet;
import java.util.regex.Matcher;
import java.util.regex.Pattern;
import java.util.stream.Collectors;

/** The public face, and rules of LANGUAGE.md that can be seen from outside or from the text. */
public final class FaceTest {
    private static final Check CHECK = new Check();
    private static final String FACE = "int feed(int,int,int,int,int)|int chalet(int)|int fault()|int where()|int beam(int)|"
            + "int vent(int,int)|int plan(int,int)|int goes(int)|int stays()|int angleIn(int)|int dampIn(int)|int whoIn(int)|"
            + "int daysOf(int,int)|int when(int)|int round()|int kept(int)|int worthOf(int,int)|int bestRow(int)|"
            + "int bestWorth(int)|int sureRow(int)|int sureCoins(int)|int rowFor(int,int)|int makes()|int makeAt(int)|"
            + "int could(boolean)|int surely(boolean)|int look()|int lookLeaves()|int judge()|int value(int)|int opens(int)|"
            + "int flood()|int cut()|int floodIf(int,int)|int narrow()|int downhill(int)|long likely(int,int,boolean)|"
            + "long mean(int,boolean)|int gusted(int,int)|int wetIn(int,int)|boolean open(int)|int oil()|int day()|"
            + "boolean undo()|int image()|boolean back(int)|int led(int)|int size(int)|int trouble()";

    public static void main(String[] args) throws IOException {
        face();
        names();
        source(Files.readString(Path.of("src/main/java/ChaletRule.java")));
        CHECK.end("FaceTest");
    }

    private static String signature(Method m) {
        String types = Arrays.stream(m.getParameterTypes()).map(Class::getName).collect(Collectors.joining(","));
        return m.getReturnType().getName() + " " + m.getName() + "(" + types + ")";
    }

    private static void face() {
        Class<?> c = ChaletRule.class;
        CHECK.due("public and final", c.getModifiers(), Modifier.PUBLIC | Modifier.FINAL);
        Set<String> found = new TreeSet<>();
        for (Method m : c.getDeclaredMethods()) {
            if (!Modifier.isPrivate(m.getModifiers())) {
                found.add(signature(m));
                CHECK.due("public " + m, m.getModifiers(), Modifier.PUBLIC);
            }
        }
        Set<String> want = new TreeSet<>(List.of(FACE.split("\\|")));
        CHECK.due("methods " + found, found.equals(want), true);
        Constructor<?>[] made = c.getDeclaredConstructors();
        CHECK.due("constructors", made.length, 1);
        CHECK.due("its parameters", made[0].getParameterCount(), 0);
        for (Field f : c.getDeclaredFields()) {
            boolean isNone = f.getName().equals("NONE");
            CHECK.due(f.getName(), Modifier.isPrivate(f.getModifiers()), !isNone);
        }
        CHECK.due("NONE", ChaletRule.NONE, -1);
    }

    /** No method of a class inside, or private one, bears the name of a public one; few fields, few parameters. */
    private static void names() {
        Set<String> open = Arrays.stream(FACE.split("\\|")).map(s -> s.replaceAll(".* |\\(.*", "")).collect(Collectors.toSet());
        CHECK.due("names", open.size(), 49);
        Class<?>[] inside = ChaletRule.class.getDeclaredClasses();
        CHECK.due("classes inside", inside.length <= 11, true);
        for (Method m : ChaletRule.class.getDeclaredMethods()) {
            if (Modifier.isPrivate(m.getModifiers())) {
                CHECK.due("private " + m.getName(), open.contains(m.getName()), false);
            }
        }
        for (Class<?> c : inside) {
            CHECK.due("static " + c, Modifier.isStatic(c.getModifiers()), true);
            long fields = Arrays.stream(c.getDeclaredFields()).filter(f -> !Modifier.isStatic(f.getModifiers())).count();
            CHECK.due("fields of " + c + " " + fields, fields <= 20, true);
            for (Method m : c.getDeclaredMethods()) {
                CHECK.due(c + " " + m.getName(), open.contains(m.getName()), false);
                CHECK.due("parameters of " + m, m.getParameterCount() <= 7, true);
            }
        }
    }

    private static void source(String text) {
        String code = text.replaceAll("(?s)/\\*.*?\\*/|//[^\n]*", "");
        String[] never = {"->", "::", "\\bcatch\\b", "\\bfinally\\b", "\\bassert\\b", "\\bsynchronized\\b", "\\bSystem\\.(?!arraycopy)",
            "Exact\\(", "\\bpackage\\b", "\\bnew [A-Za-z]+\\[[^\\]]*\\]\\[", "String\\.format", "\\bvar\\b", "\\bRandom\\b",
            "\\bInteger\\.(?!MIN_VALUE|MAX_VALUE)", "\\bdouble\\b", "\\bfloat\\b", "\\bstatic \\{"};
        for (String s : never) {
            Matcher m = Pattern.compile(s).matcher(code);
            CHECK.due("no " + s, m.find(), false);
        }
        Matcher imports = Pattern.compile("import ([^;]*);").matcher(code);
        while (imports.find()) {
            CHECK.due(imports.group(), Set.of("java.util.Arrays", "java.util.NoSuchElementException").contains(imports.group(1)), true);
        }
        int thrown = code.split("\\bthrow\\b", -1).length - 1;
        CHECK.due("throws", thrown, 1);
    }
}
