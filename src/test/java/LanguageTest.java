import java.io.IOException;
import java.lang.reflect.Constructor;
import java.lang.reflect.Field;
import java.lang.reflect.Method;
import java.lang.reflect.Modifier;
import java.nio.file.Files;
import java.nio.file.Path;
import java.util.ArrayList;
import java.util.Arrays;
import java.util.List;
import java.util.TreeSet;
import java.util.regex.Matcher;
import java.util.regex.Pattern;

/** What of LANGUAGE.md and of the face a look at the source and the class can tell. */
public final class LanguageTest {
    private static final Check CHECK = new Check("LanguageTest");
    private static final String FACE = "feed/3 port/0 day/0 person/2 ask/2 fright/2 soothe/2 quarter/0 undo/0 judged/1 "
            + "later/2 worst/0 middle/0 noon/1 first/0 meet/2 ordered/1 round/2 askings/1 train/2 missed/1 see/3 pairs/1 "
            + "look/1 tell/2 fits/1 when/0 comes/1 rings/0 calm/0 drift/2 near/1 spread/0 right/1 steady/0 passes/3 hub/0 "
            + "teacher/1 together/0 cure/1 chance/4 rests/4 years/3 mark/2 count/1";
    private static final String[] FORBIDDEN = {"\\btry\\b", "\\bcatch\\b", "\\bfinally\\b", "->", "::", "\\bsynchronized\\b",
        "\\bassert\\b", "Exact\\b", "\\bnew [a-z]+\\[[^\\]]*\\]\\[", "\\bpackage\\b", "\\bdouble\\b", "\\bfloat\\b",
        "\\bString\\.", "\\bSystem\\.(?!arraycopy)", "\\bMath\\.(?!abs|max|min|floorMod|floorDiv)",
        "\\bArrays\\.(?!fill|copyOf)", "\\bprotected\\b", "\\bnative\\b", "\\bvolatile\\b", "\\bprivate static (?!final|int|boolean|void)"};

    public static void main(String[] args) throws IOException {
        String source = Files.readString(Path.of("src/main/java/WristPort.java"));
        String code = source.replaceAll("(?s)/\\*.*?\\*/", "").replaceAll("//[^\n]*", "").replaceAll("\"[^\"\n]*\"", "\"\"");
        for (String bad : FORBIDDEN) {
            Matcher m = Pattern.compile(bad).matcher(code);
            while (m.find()) {
                CHECK.due(bad + " stands at ..." + code.substring(m.start(), Math.min(code.length(), m.start() + 40)), 1, 0);
            }
        }
        CHECK.due("only printable signs", source.chars().allMatch(c -> c == 10 || c >= 32 && c < 127), true);
        for (String line : source.split("\n")) {
            if (line.startsWith("import")) {
                CHECK.due(line, List.of("import java.util.Arrays;", "import java.util.NoSuchElementException;").contains(line), true);
            }
        }
        face();
        classes();
        lengths(code);
        CHECK.end();
    }

    private static void face() {
        TreeSet<String> due = new TreeSet<>(List.of(FACE.split(" ")));
        TreeSet<String> got = new TreeSet<>();
        for (Method m : WristPort.class.getDeclaredMethods()) {
            if (Modifier.isPublic(m.getModifiers())) {
                got.add(m.getName() + "/" + m.getParameterCount());
            } else {
                CHECK.due(m + " is private", Modifier.isPrivate(m.getModifiers()), true);
                CHECK.due(m + " has a name of its own", (" " + FACE).contains(" " + m.getName() + "/"), false);
            }
        }
        CHECK.due("the face " + got, got.equals(due), true);
        for (Field f : WristPort.class.getDeclaredFields()) {
            boolean isNone = f.getName().equals("NONE");
            CHECK.due(f + "", isNone ? Modifier.isPublic(f.getModifiers()) : Modifier.isPrivate(f.getModifiers()), true);
            CHECK.due(f + " static is final", !Modifier.isStatic(f.getModifiers()) || Modifier.isFinal(f.getModifiers()), true);
        }
        CHECK.due("one constructor", WristPort.class.getDeclaredConstructors().length, 1);
        for (Constructor<?> c : WristPort.class.getDeclaredConstructors()) {
            CHECK.due("without arguments", c.getParameterCount(), 0);
        }
        CHECK.due("final", Modifier.isFinal(WristPort.class.getModifiers()), true);
    }

    private static void classes() {
        List<Class<?>> all = new ArrayList<>(Arrays.asList(WristPort.class.getDeclaredClasses()));
        CHECK.due("classes", all.size() <= 12, true);
        all.add(WristPort.class);
        for (Class<?> c : all) {
            int fields = 0;
            for (Field f : c.getDeclaredFields()) {
                fields += Modifier.isStatic(f.getModifiers()) ? 0 : 1;
            }
            CHECK.due(c + " fields", fields <= 20, true);
            for (Method m : c.getDeclaredMethods()) {
                CHECK.due(m + " parameters", m.getParameterCount() <= 7, true);
                boolean own = c == WristPort.class || !(" " + FACE).contains(" " + m.getName() + "/");
                CHECK.due(m + " has a name of its own", own, true);
            }
            if (c != WristPort.class) {
                CHECK.due(c + " is static and not public", Modifier.isStatic(c.getModifiers())
                        && !Modifier.isPublic(c.getModifiers()) && !Modifier.isProtected(c.getModifiers()), true);
            }
        }
    }

    /** Methods stay short: some sixty lines. */
    private static void lengths(String code) {
        int from = -1;
        String indent = "";
        String[] lines = code.split("\n");
        for (int i = 0; i < lines.length; i++) {
            if (lines[i].matches(" +[a-zA-Z].*\\).*\\{") && !lines[i].matches(" +(if|for|while|switch|else).*")) {
                from = i;
                indent = lines[i].replaceAll("\\S.*", "");
            } else if (from >= 0 && lines[i].equals(indent + "}")) {
                CHECK.due(lines[from] + " is long", i - from < 60, true);
                from = -1;
            }
        }
    }
}
