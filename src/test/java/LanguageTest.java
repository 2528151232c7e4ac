import java.lang.reflect.Constructor;
import java.lang.reflect.Field;
import java.lang.reflect.Method;
import java.lang.reflect.Modifier;
import java.nio.file.Files;
import java.nio.file.Path;
import java.util.ArrayList;
import java.util.HashSet;
import java.util.List;
import java.util.Set;
import java.util.TreeSet;
import java.util.regex.Matcher;
import java.util.regex.Pattern;

/** The rules of LANGUAGE.md that can be seen without reading: words of the source, members of the classes. */
public final class LanguageTest {
    private static final String FACE = "feed/5 end/1 fault/1 scene/0 rules/0 sound/2 person/3 who/2 becomes/4 weight/5 chance/5 kind/5 "
        + "likely/4 noticed/3 answer/4 undo/0 of/2 more/3 best/1 own/2 share/2 foretold/3 pairs/5 hump/3 right/3 worth/3 parted/4 "
        + "next/4 knowing/4 called/4 draw/4 image/1 back/1 count/1";
    private static final int LONGEST_METHOD = 60;
    private static final int MOST_CLASSES = 12;
    private static final int MOST_FIELDS = 20;

    private static int passed = 0;
    private static int failed = 0;

    private static void holds(String rule, boolean so) {
        if (so) {
            passed++;
        } else {
            failed++;
            System.out.println("LANGUAGE.md: " + rule);
        }
    }

    public static void main(String[] args) throws Exception {
        String source = Files.readString(Path.of(args[0]));
        String code = source.replaceAll("/\\*(?s:.*?)\\*/", " ").replaceAll("//[^\n]*", " ");
        words(code);
        members();
        lengths(code);
        System.out.println("LanguageTest: " + passed + " passed, " + failed + " failed");
        if (failed > 0) {
            System.exit(1);
        }
    }

    private static void words(String code) {
        String[] forbidden = {"throw", "throws", "try", "catch", "finally", "synchronized", "assert", "import", "package", "record",
            "protected", "var", "yield", "native", "volatile", "transient", "hashCode", "toString", "System", "Object"};
        for (String word : forbidden) {
            holds("the word " + word, !Pattern.compile("\\b" + word + "\\b").matcher(code).find());
        }
        for (String sign : new String[] {"->", "::", "@", "\"\"\"", "\""}) {
            holds("the sign " + sign, !code.contains(sign));
        }
        Matcher library = Pattern.compile("\\b(Math|Integer|Long|Arrays|List|ArrayList)\\.(\\w+)").matcher(code);
        while (library.find()) {
            holds(library.group(), Set.of("Math.max", "Math.min", "Math.abs").contains(library.group()));
        }
        for (int k = 0; k < code.length(); k++) {
            if (code.charAt(k) > 126) {
                holds("a sign beyond 126 at " + k, false);
            }
        }
    }

    private static void members() throws Exception {
        Class<?> face = LipsVoice.class;
        holds("final class", Modifier.isFinal(face.getModifiers()) && Modifier.isPublic(face.getModifiers()));
        Set<String> due = new TreeSet<>(Set.of(FACE.split(" ")));
        Set<String> told = new TreeSet<>();
        Set<String> names = new HashSet<>();
        for (Method m : face.getDeclaredMethods()) {
            if (Modifier.isPublic(m.getModifiers())) {
                told.add(m.getName() + "/" + m.getParameterCount());
                names.add(m.getName());
            } else {
                holds("private " + m.getName(), Modifier.isPrivate(m.getModifiers()));
            }
            holds("seven parameters: " + m.getName(), m.getParameterCount() <= 7);
        }
        holds("the face is " + told, due.equals(told));
        Constructor<?>[] constructors = face.getDeclaredConstructors();
        holds("one constructor", constructors.length == 1 && Modifier.isPublic(constructors[0].getModifiers()));
        for (Field f : face.getDeclaredFields()) {
            boolean isConstant = f.getName().equals("NONE") || f.getName().equals("VOID");
            holds("field " + f.getName(), Modifier.isPublic(f.getModifiers()) == isConstant
                && (isConstant || Modifier.isPrivate(f.getModifiers())));
        }
        List<Class<?>> all = new ArrayList<>(List.of(face.getDeclaredClasses()));
        holds("some twelve classes", all.size() < MOST_CLASSES);
        for (Class<?> inside : all) {
            holds("static " + inside, Modifier.isStatic(inside.getModifiers()) && inside.getDeclaredClasses().length == 0);
            for (Method m : inside.getDeclaredMethods()) {
                holds("a public name: " + m, !names.contains(m.getName()));
                holds("seven parameters: " + m, m.getParameterCount() <= 7);
            }
        }
        all.add(face);
        for (Class<?> one : all) {
            fields(one);
        }
    }

    private static void fields(Class<?> one) {
        int count = 0;
        for (Field f : one.getDeclaredFields()) {
            if (Modifier.isStatic(f.getModifiers())) {
                holds("static " + f, Modifier.isFinal(f.getModifiers())
                    && (f.getType() == int.class || f.getType() == long.class || f.getType() == boolean.class));
            } else {
                count++;
            }
        }
        holds("some twenty fields in " + one, count <= MOST_FIELDS);
    }

    private static void lengths(String code) {
        String[] lines = code.split("\n");
        for (String indent : new String[] {"    ", "        "}) {
            int from = -1;
            for (int k = 0; k < lines.length; k++) {
                if (lines[k].matches(indent + "\\S.*\\) \\{")) {
                    from = k;
                } else if (lines[k].equals(indent + "}") && from >= 0) {
                    holds("a method of " + (k - from) + " lines at line " + (from + 1), k - from <= LONGEST_METHOD);
                    from = -1;
                }
            }
        }
    }
}
