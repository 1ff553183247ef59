import java.io.IOException;
import java.lang.reflect.Constructor;
import java.lang.reflect.Field;
import java.lang.reflect.Method;
import java.lang.reflect.Modifier;
import java.nio.file.Files;
import java.nio.file.Path;
import java.util.ArrayList;
import java.util.List;
import java.util.Set;
import java.util.TreeSet;
import java.util.regex.Matcher;
import java.util.regex.Pattern;

/** The face of the document, the constants, and those rules of LANGUAGE.md that can be looked for. */
public final class FaceTest {
    private static final Check check = new Check("FaceTest");

    private static final String[] METHODS = {"family 3", "set 2", "job 3", "drop 1", "due 2", "of 2", "best 1", "plan 2",
        "end 2", "slack 2", "rule 1", "ruled 1", "say 1", "wipe 0", "fault 0", "row 1", "at 1", "put 2", "image 1",
        "restore 1", "count 1"};

    public static void main(String[] args) throws IOException {
        constants();
        members();
        faceAsTold();
        namesAreApart();
        staticFields();
        words();
        library();
        check.finish();
    }

    private static void constants() {
        check.due("UNKNOWN", HeatBatches.UNKNOWN, -1);
        check.due("OUTSIDE", HeatBatches.OUTSIDE, -2);
        check.due("STATE", HeatBatches.STATE, -3);
        check.due("FULL", HeatBatches.FULL, -4);
        check.due("NONE", HeatBatches.NONE, -6);
        check.due("FAULT", HeatBatches.FAULT, -7);
    }

    private static void members() {
        check.holds("the class is public and final", Modifier.isPublic(HeatBatches.class.getModifiers())
                && Modifier.isFinal(HeatBatches.class.getModifiers()));
        Set<String> found = new TreeSet<>();
        for (Method m : HeatBatches.class.getDeclaredMethods()) {
            if (!Modifier.isPrivate(m.getModifiers())) {
                found.add(m.getName() + " " + m.getParameterCount());
                boolean ints = m.getReturnType() == int.class;
                for (Class<?> type : m.getParameterTypes()) {
                    ints &= type == int.class;
                }
                check.holds(m + " is public, not static, of ints", ints && Modifier.isPublic(m.getModifiers())
                        && !Modifier.isStatic(m.getModifiers()));
            }
        }
        check.holds("the methods are those of the document", found.equals(new TreeSet<>(Set.of(METHODS))));
        Set<String> fields = new TreeSet<>();
        for (Field f : HeatBatches.class.getDeclaredFields()) {
            if (!Modifier.isPrivate(f.getModifiers())) {
                fields.add(f.getName());
            }
        }
        check.holds("the constants are those of the document", fields.equals(
                new TreeSet<>(Set.of("UNKNOWN", "OUTSIDE", "STATE", "FULL", "NONE", "FAULT"))));
        Constructor<?>[] made = HeatBatches.class.getDeclaredConstructors();
        check.holds("one public constructor without parameters", made.length == 1
                && made[0].getParameterCount() == 0 && Modifier.isPublic(made[0].getModifiers()));
    }

    /** The lines of the document's face, with the names of their numbers. */
    private static void faceAsTold() throws IOException {
        String document = Files.readString(Path.of("../shared/DOC.md"));
        String code = code();
        Matcher lines = Pattern.compile("(?m)^    (public .*);$").matcher(document);
        int told = 0;
        while (lines.find()) {
            told++;
            check.holds("the class declares " + lines.group(1), code.contains("    " + lines.group(1) + " {\n")
                    || code.contains("    " + lines.group(1) + ";\n"));
        }
        check.due("lines of the face", told, METHODS.length + 2);
    }

    private static void namesAreApart() {
        Set<String> open = new TreeSet<>();
        for (String m : METHODS) {
            open.add(m.substring(0, m.indexOf(' ')));
        }
        int classes = 0;
        for (Class<?> inside : HeatBatches.class.getDeclaredClasses()) {
            classes++;
            check.holds(inside + " is static", Modifier.isStatic(inside.getModifiers()));
            check.holds(inside + " has few fields", inside.getDeclaredFields().length <= 20);
            for (Method m : inside.getDeclaredMethods()) {
                check.holds(m + " has a name of its own", !open.contains(m.getName()));
                check.holds(m + " has at most 7 parameters", m.getParameterCount() <= 7);
            }
        }
        check.holds("at most 12 classes", classes < 12);
        for (Method m : HeatBatches.class.getDeclaredMethods()) {
            if (Modifier.isPrivate(m.getModifiers())) {
                check.holds(m + " has a name of its own", !open.contains(m.getName()));
            }
        }
    }

    private static void staticFields() {
        List<Class<?>> classes = new ArrayList<>(List.of(HeatBatches.class.getDeclaredClasses()));
        classes.add(HeatBatches.class);
        for (Class<?> one : classes) {
            for (Field f : one.getDeclaredFields()) {
                check.holds(f + " is no static state", !Modifier.isStatic(f.getModifiers())
                        || Modifier.isFinal(f.getModifiers()) && f.getType() == int.class);
            }
        }
    }

    private static String text() throws IOException {
        return Files.readString(Path.of("src/main/java/HeatBatches.java"));
    }

    private static String code() throws IOException {
        return text().replaceAll("(?s)/\\*.*?\\*/", "").replaceAll("//[^\n]*", "");
    }

    private static void words() throws IOException {
        String text = text();
        String code = code();
        String[] words = {"throw", "throws", "try", "catch", "synchronized", "assert", "package", "Exact", "->", "::",
            "Random", "System.out", "currentTimeMillis", "nanoTime", "Thread", "hashCode", "toString"};
        for (String word : words) {
            boolean letters = Character.isLetter(word.charAt(0));
            Matcher found = Pattern.compile(letters ? "\\b" + Pattern.quote(word) + "\\b" : word).matcher(code);
            check.holds("the class is without " + word, !found.find());
        }
        Matcher imports = Pattern.compile("import ([\\w.]+);").matcher(code);
        while (imports.find()) {
            check.holds("import " + imports.group(1) + " is listed", Set.of("java.util.Arrays", "java.util.ArrayList",
                    "java.util.List", "java.util.Iterator").contains(imports.group(1)));
        }
        for (int i = 0; i < text.length(); i++) {
            if (text.charAt(i) > 127) {
                check.holds("sign " + i + " is below 128", false);
            }
        }
    }

    /** Rule 4 lists functions of the library: one that it has not, or a constant of it, is not to be used. */
    private static void library() throws IOException {
        Set<String> listed = Set.of("Math.max", "Math.min", "Math.abs", "Math.floorDiv", "Math.floorMod", "Integer.compare",
                "Integer.bitCount", "Integer.max", "Integer.min", "System.arraycopy", "Arrays.fill", "Arrays.copyOf",
                "Arrays.copyOfRange");
        Set<String> own = new TreeSet<>();
        for (Class<?> inside : HeatBatches.class.getDeclaredClasses()) {
            own.add(inside.getSimpleName());
        }
        Matcher used = Pattern.compile("\\b([A-Z]\\w*[a-z]\\w*)\\s*\\.\\s*(\\w+)(\\s*\\()?")
                .matcher(code().replaceAll("import [^;]*;", ""));
        while (used.find()) {
            String name = used.group(1) + "." + used.group(2);
            check.holds(name + " is of the class or a function that is listed",
                    own.contains(used.group(1)) || listed.contains(name) && used.group(3) != null);
        }
    }
}
