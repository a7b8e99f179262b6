import java.lang.reflect.Constructor;
import java.lang.reflect.Field;
import java.lang.reflect.Method;
import java.lang.reflect.Modifier;
import java.nio.file.Files;
import java.nio.file.Path;
import java.util.ArrayList;
import java.util.List;
import java.util.Set;
import java.util.TreeSet;
import java.util.regex.Matcher;
import java.util.regex.Pattern;

/** The public face of the document, and those rules of LANGUAGE.md that a test can see. */
public final class FaceTest {
    private static final String FACE = "int add(int) | int agree(int) | int asked() | int at(int,int) | int copy(int,int,int,int,int)"
        + " | int count(int) | int embassy(int) | int fault(int) | int finding() | int findings(int) | int fits(int,int,int)"
        + " | int hears(int,int) | int keep(int) | int kinds(int,int) | int knows(int,int) | int lay(int,int,int)"
        + " | int looks(int,int) | int lots(int,int) | int mark(int,int) | int mean(int) | int meet(int,int,int)"
        + " | int meetings(int,int,int) | int mid(int,int) | int missions(int) | int odds(int,int) | int on(int)"
        + " | int person(int,int) | int put(int,int,int) | int row(int,int) | int seems(int,int) | int step(int)"
        + " | int steps(int) | int tear(int) | int tells(int) | int text(int,int) | int there(int) | int treat(int,int)"
        + " | int undo(int) | int well() | int worst(int) | long digest() | long lower() | long upper()";
    private static final Path SOURCE = Path.of("src/main/java/FirstLanding.java");
    private static final Due DUE = new Due();

    public static void main(String[] args) throws Exception {
        face();
        members();
        words(Files.readString(SOURCE));
        methodSizes(Files.readAllLines(SOURCE));
        DUE.end("FaceTest");
    }

    private static void yes(String what, boolean holds) {
        DUE.is(what, holds ? 1 : 0, 1);
    }

    private static void face() {
        Class<?> c = FirstLanding.class;
        yes("public and final", Modifier.isPublic(c.getModifiers()) && Modifier.isFinal(c.getModifiers()));
        Set<String> methods = new TreeSet<>();
        for (Method m : c.getDeclaredMethods()) {
            if (!Modifier.isPrivate(m.getModifiers())) {
                yes("public, not static: " + m, Modifier.isPublic(m.getModifiers()) && !Modifier.isStatic(m.getModifiers()));
                methods.add(m.getReturnType() + " " + m.getName() + parameters(m));
            }
        }
        String got = String.join(" | ", methods);
        yes("the methods are " + got, got.equals(FACE));
        Set<String> constants = new TreeSet<>();
        for (Field f : c.getDeclaredFields()) {
            if (!Modifier.isPrivate(f.getModifiers())) {
                constants.add(f.getType() + " " + f.getName());
            }
        }
        yes("the constants are " + constants,
            constants.toString().equals("[int BAD, int FINDING, int FULL, int NONE, int SPENT, int STATE]"));
        Constructor<?>[] made = c.getDeclaredConstructors();
        yes("one public constructor", made.length == 1 && Modifier.isPublic(made[0].getModifiers())
            && made[0].getParameterCount() == 0);
    }

    private static String parameters(Method m) {
        List<String> types = new ArrayList<>();
        for (Class<?> type : m.getParameterTypes()) {
            types.add(type.toString());
        }
        return "(" + String.join(",", types) + ")";
    }

    private static void members() {
        Set<String> face = new TreeSet<>();
        for (Method m : FirstLanding.class.getDeclaredMethods()) {
            if (Modifier.isPublic(m.getModifiers())) {
                face.add(m.getName());
            }
        }
        List<Class<?>> classes = new ArrayList<>(List.of(FirstLanding.class.getDeclaredClasses()));
        classes.add(FirstLanding.class);
        yes("twelve classes at most", classes.size() <= 12);
        for (Class<?> c : classes) {
            yes("static: " + c, c == FirstLanding.class || Modifier.isStatic(c.getModifiers()));
            int fields = 0;
            for (Field f : c.getDeclaredFields()) {
                boolean fixed = Modifier.isStatic(f.getModifiers());
                yes("static fields are final: " + f, !fixed || Modifier.isFinal(f.getModifiers()));
                fields += fixed ? 0 : 1;
            }
            yes("twenty fields at most: " + c, fields <= 20);
            for (Method m : c.getDeclaredMethods()) {
                yes("seven parameters at most: " + m, m.getParameterCount() <= 7);
                yes("a name of its own: " + m, Modifier.isPublic(m.getModifiers()) || !face.contains(m.getName()));
            }
        }
    }

    private static void words(String source) {
        String code = source.replaceAll("(?s)/\\*.*?\\*/", "").replaceAll("//[^\n]*", "");
        String[] none = {"\\bthrow", "\\btry\\b", "\\bcatch\\b", "\\bfinally\\b", "\\bassert\\b", "\\bsynchronized\\b",
            "->", "::", "\\bpackage\\b", "\\bExact", "\\bvar\\b", "\"", "\\bequals\\b", "\\bhashCode\\b", "\\bprotected\\b",
            "static \\{", "\\bdouble\\b", "\\bfloat\\b", "\\[\\]\\["};
        for (String word : none) {
            yes("the code is without " + word, !Pattern.compile(word).matcher(code).find());
        }
        Matcher imports = Pattern.compile("import ([^;]*);").matcher(code);
        while (imports.find()) {
            yes("import of " + imports.group(1), imports.group(1).equals("java.util.Arrays"));
        }
        Matcher library = Pattern.compile("\\b(System|Arrays|Math|Integer|Long)\\.(\\w+)").matcher(code);
        Set<String> free = Set.of("System.arraycopy", "Arrays.fill", "Math.max", "Math.min", "Math.abs",
            "Integer.bitCount", "Long.bitCount");
        while (library.find()) {
            yes("the library's " + library.group(), free.contains(library.group()));
        }
        yes("signs 1 to 127 alone", source.chars().allMatch(sign -> sign > 0 && sign < 128));
    }

    private static void methodSizes(List<String> lines) {
        int begun = -1;
        for (int i = 0; i < lines.size(); i++) {
            String line = lines.get(i);
            if (line.matches(" +(public|private)[^=;]*\\) \\{")) {
                begun = i;
            }
            if (begun >= 0 && line.equals(lines.get(begun).replaceAll("\\S.*", "") + "}")) {
                yes("sixty lines at most: " + lines.get(begun).trim(), i - begun + 1 <= 60);
                begun = -1;
            }
        }
        yes("each method has an end", begun < 0);
    }
}
