import java.lang.reflect.Constructor;
import java.lang.reflect.Field;
import java.lang.reflect.Method;
import java.lang.reflect.Modifier;
import java.nio.file.Files;
import java.nio.file.Path;
import java.util.ArrayList;
import java.util.Arrays;
import java.util.List;
import java.util.Set;
import java.util.TreeSet;
import java.util.regex.Matcher;
import java.util.regex.Pattern;

/** The public face, and what a look at the program's text tells of ../shared/LANGUAGE.md. */
final class FaceTest {
    private static final Check check = new Check("FaceTest");
    private static final String[] FACE = {"int field(int,int,int,int)", "int ofStander(int,int)",
        "int walk(int,int)", "int grow(int,int)", "int build(int)", "int shade(int,int)",
        "int hidden(int)", "int census(int)", "int runs(int,int)", "int fair()",
        "int walks(int,int,int,int,int,int)", "int pair(int,int,int,int)", "int send(int,int)",
        "int reading(int,int)", "int back(int)", "int heights(int)", "int kinds(int)", "int spans()",
        "long odds(int,int,int)", "int sheet(int,int,int)", "int lose(int)", "int put(int,int,int)",
        "long cell(int,int,int)", "int copy(int,int,int,int,int)", "int tell(int)", "int tax(int)",
        "int as(int,int)", "int trace()", "int fault()", "int many(int)"};

    public static void main(String[] args) throws Exception {
        methods();
        constants();
        if (args.length != 1) {
            throw new IllegalArgumentException("the program's path is to be told");
        }
        sizes();
        String program = Files.readString(Path.of(args[0]));
        text(program);
        library(program);
        check.end();
    }

    private static String face(Method m) {
        StringBuilder face = new StringBuilder(m.getReturnType().getName()).append(' ').append(m.getName());
        return face.append(Arrays.toString(m.getParameterTypes()).replace('[', '(').replace(']', ')')
            .replace(" ", "")).toString();
    }

    private static void methods() {
        Set<String> want = new TreeSet<>(Arrays.asList(FACE));
        Set<String> names = new TreeSet<>();
        for (String face : FACE) {
            names.add(face.substring(face.indexOf(' ') + 1, face.indexOf('(')));
        }
        for (Method m : SnowCensus.class.getDeclaredMethods()) {
            if (Modifier.isPublic(m.getModifiers())) {
                check.dueTrue(face(m) + " is of the face", want.remove(face(m)));
                check.dueTrue(face(m) + " is no static one", !Modifier.isStatic(m.getModifiers()));
            } else {
                check.dueTrue(face(m) + " is private", Modifier.isPrivate(m.getModifiers()));
                check.dueTrue(face(m) + " has a name of its own", !names.contains(m.getName()));
            }
        }
        check.dueTrue("nothing is left out: " + want, want.isEmpty());
        check.dueTrue("the class is public and final",
            (SnowCensus.class.getModifiers() & (Modifier.PUBLIC | Modifier.FINAL))
                == (Modifier.PUBLIC | Modifier.FINAL));
        Constructor<?>[] made = SnowCensus.class.getDeclaredConstructors();
        check.due("constructors", made.length, 1);
        check.dueTrue("a public one without numbers",
            Modifier.isPublic(made[0].getModifiers()) && made[0].getParameterCount() == 0);
        for (Class<?> inside : SnowCensus.class.getDeclaredClasses()) {
            check.dueTrue(inside + " is static", Modifier.isStatic(inside.getModifiers()));
            for (Method m : inside.getDeclaredMethods()) {
                check.dueTrue(face(m) + " has a name of its own", !names.contains(m.getName()));
            }
        }
    }

    private static void constants() {
        check.due("UNKNOWN", SnowCensus.UNKNOWN, -1);
        check.due("OUTSIDE", SnowCensus.OUTSIDE, -2);
        check.due("STATE", SnowCensus.STATE, -3);
        check.due("FULL", SnowCensus.FULL, -4);
        check.due("NONE", SnowCensus.NONE, -9);
        check.due("LOST", SnowCensus.LOST, Long.MIN_VALUE);
        int open = 0;
        for (Field f : SnowCensus.class.getDeclaredFields()) {
            boolean isPublic = Modifier.isPublic(f.getModifiers());
            check.dueTrue(f + " is public or private", isPublic || Modifier.isPrivate(f.getModifiers()));
            check.dueTrue(f + " is final, if static",
                !Modifier.isStatic(f.getModifiers()) || Modifier.isFinal(f.getModifiers()));
            open += isPublic ? 1 : 0;
        }
        check.due("public constants", open, 6);
    }

    /** Rule 11: parameters, classes, fields beside constants. */
    private static void sizes() {
        List<Class<?>> classes = new ArrayList<>(Arrays.asList(SnowCensus.class.getDeclaredClasses()));
        classes.add(SnowCensus.class);
        check.dueTrue("at most 12 classes: " + classes.size(), classes.size() <= 12);
        for (Class<?> one : classes) {
            int fields = 0;
            for (Field f : one.getDeclaredFields()) {
                fields += Modifier.isStatic(f.getModifiers()) ? 0 : 1;
            }
            check.dueTrue(one + " has at most 20 fields: " + fields, fields <= 20);
            for (Method m : one.getDeclaredMethods()) {
                check.dueTrue(face(m) + " takes at most 7", m.getParameterCount() <= 7);
            }
        }
    }

    private static String withoutComments(String program) {
        return program.replaceAll("(?s)/\\*.*?\\*/", "").replaceAll("//[^\n]*", "");
    }

    /** Rule 4: whatever is called by a class's name is of the list, or of a class inside. */
    private static void library(String program) {
        Set<String> allowed = new TreeSet<>(Arrays.asList("Math.abs", "Math.max", "Math.min",
            "Integer.bitCount", "System.arraycopy", "Long.MIN_VALUE"));
        Matcher used = Pattern.compile("\\b([A-Z][a-z]\\w*\\.\\w+)").matcher(withoutComments(program));
        while (used.find()) {
            check.dueTrue("the program uses " + used.group(1), allowed.contains(used.group(1)));
        }
        Matcher made = Pattern.compile("\\bnew (\\w+)").matcher(withoutComments(program));
        Set<String> own = new TreeSet<>(Set.of("int", "long"));
        for (Class<?> inside : SnowCensus.class.getDeclaredClasses()) {
            own.add(inside.getSimpleName());
        }
        while (made.find()) {
            check.dueTrue("the program makes a " + made.group(1), own.contains(made.group(1)));
        }
    }

    private static void text(String program) {
        String bare = withoutComments(program);
        Matcher ruledOut = Pattern.compile("\\b(throw|throws|try|catch|synchronized|assert|import|package|"
            + "random|nanoTime|currentTimeMillis|hashCode|toString|\\w+Exact)\\b|->|::|\"").matcher(bare);
        while (ruledOut.find()) {
            check.dueTrue("the program has " + ruledOut.group(), false);
        }
        check.dueTrue("signs 1 to 127", program.chars().allMatch(c -> c >= 1 && c <= 127));
        int longest = 0;
        int begin = 0;
        String[] lines = program.split("\n");
        for (int k = 0; k < lines.length; k++) {
            if (lines[k].matches("( {4}| {8})[^ /}*].*\\) \\{")) {
                begin = k;
            } else if (lines[k].matches(" {4}}| {8}}")) {
                longest = Math.max(longest, k - begin + 1);
            }
        }
        check.dueTrue("methods stay short: " + longest, longest <= 60);
    }
}
