import java.lang.reflect.Constructor;
import java.lang.reflect.Field;
import java.lang.reflect.Method;
import java.lang.reflect.Modifier;
import java.nio.file.Files;
import java.nio.file.Path;
import java.util.ArrayList;
import java.util.Arrays;
import java.util.HashSet;
import java.util.List;
import java.util.Set;
import java.util.TreeSet;
import java.util.regex.Matcher;
import java.util.regex.Pattern;

/** What of ../shared/LANGUAGE.md can be told by the class itself and by the words of its source. */
public final class LanguageTest {
    private static final Due DUE = new Due();

    public static void main(String[] args) throws Exception {
        String source = Files.readString(Path.of("src/main/java/FamilyGlass.java"));
        String document = Files.readString(Path.of("../shared/DOC.md"));
        face(document);
        List<Class<?>> classes = new ArrayList<>(List.of(FamilyGlass.class.getDeclaredClasses()));
        for (Class<?> inside : classes) {
            DUE.is(inside + " static", Modifier.isStatic(inside.getModifiers()), true);
            DUE.is(inside + " not public", Modifier.isPublic(inside.getModifiers()), false);
        }
        classes.add(FamilyGlass.class);
        DUE.is("classes at most", Math.max(12, classes.size()), 12);
        Set<String> publicNames = new HashSet<>();
        for (Method method : FamilyGlass.class.getMethods()) {
            publicNames.add(method.getName());
        }
        for (Class<?> each : classes) {
            oneClass(each, publicNames);
        }
        words(code(source));
        methodLengths(source);
        DUE.end();
    }

    private static void face(String document) {
        DUE.about("rule 1");
        Set<String> due = new TreeSet<>();
        Matcher lines = Pattern.compile("    public (int|boolean) (\\w+)\\(([^)]*)\\);").matcher(document);
        while (lines.find()) {
            StringBuilder types = new StringBuilder();
            for (String parameter : lines.group(3).split(", ")) {
                types.append(parameter.split(" ")[0]).append(' ');
            }
            due.add(lines.group(1) + " " + lines.group(2) + " " + types.toString().trim());
        }
        Set<String> got = new TreeSet<>();
        for (Method method : FamilyGlass.class.getDeclaredMethods()) {
            if (Modifier.isPrivate(method.getModifiers())) {
                continue;
            }
            StringBuilder types = new StringBuilder();
            for (Class<?> type : method.getParameterTypes()) {
                types.append(type).append(' ');
            }
            got.add(method.getReturnType() + " " + method.getName() + " " + types.toString().trim());
            DUE.is(method + " public", Modifier.isPublic(method.getModifiers()), true);
        }
        DUE.is("methods of the face", due.size(), 40);
        DUE.is("methods " + got + " are " + due, got.equals(due), true);
        for (Field field : FamilyGlass.class.getDeclaredFields()) {
            DUE.is(field + " private", Modifier.isPrivate(field.getModifiers()), !field.getName().equals("NONE"));
        }
        Constructor<?>[] makers = FamilyGlass.class.getDeclaredConstructors();
        DUE.is("constructors", makers.length, 1);
        DUE.is("constructor", makers[0].getParameterCount() == 0 && Modifier.isPublic(makers[0].getModifiers()), true);
    }

    private static void oneClass(Class<?> each, Set<String> publicNames) {
        DUE.about(each.getName());
        int fields = 0;
        for (Field field : each.getDeclaredFields()) {
            if (Modifier.isStatic(field.getModifiers())) {
                DUE.is(field + " final", Modifier.isFinal(field.getModifiers()), true);
            } else {
                fields++;
            }
        }
        DUE.is("fields at most", Math.max(20, fields), 20);
        for (Method method : each.getDeclaredMethods()) {
            DUE.is(method + " parameters", Math.max(7, method.getParameterCount()), 7);
            if (!Modifier.isPublic(method.getModifiers())) {
                DUE.is(method + " has a public name", publicNames.contains(method.getName()), false);
            }
        }
    }

    /** The source without its comments, texts and signs. */
    private static String code(String source) {
        String bare = Pattern.compile("/\\*.*?\\*/", Pattern.DOTALL).matcher(source).replaceAll("");
        return bare.replaceAll("//.*", "").replaceAll("\"(\\\\.|[^\"\\\\])*\"", "\"\"").replaceAll("'(\\\\.|[^'\\\\])'", "''");
    }

    private static void words(String code) {
        DUE.about("words");
        for (String word : List.of("throw", "throws", "try", "catch", "synchronized", "assert", "import", "package", "protected",
                "instanceof", "System", "Thread", "Object", "equals", "hashCode", "toString", "ordinal", "yield",
                "double", "float", "record", "Exception", "var", "native", "transient", "volatile", "goto")) {
            DUE.is("uses of " + word, Pattern.compile("\\b" + word + "\\b").matcher(code).results().count(), 0);
        }
        for (String sign : List.of("->", "::", "@", "{{")) {
            DUE.is("uses of " + sign, code.contains(sign), false);
        }
        Set<String> known = new HashSet<>(List.of("Math.max", "Math.min", "Math.abs", "Integer.bitCount"));
        Matcher uses = Pattern.compile("\\b(Math|Integer|Long|Arrays|String|Character|Byte)\\.\\w+").matcher(code);
        while (uses.find()) {
            DUE.is("library: " + uses.group(), known.contains(uses.group()), true);
        }
        DUE.is("signs beyond 127", code.chars().filter(c -> c > 127).count(), 0);
    }

    private static void methodLengths(String source) {
        DUE.about("rule 11");
        String[] lines = source.split("\n");
        int methods = 0;
        for (int i = 0; i < lines.length; i++) {
            Matcher head = Pattern.compile("^( +)(public|private) .*\\) \\{$").matcher(lines[i]);
            if (!head.find()) {
                continue;
            }
            methods++;
            int end = Arrays.asList(lines).subList(i, lines.length).indexOf(head.group(1) + "}");
            DUE.is("lines of " + lines[i].trim(), end >= 0 && end <= 60 ? 0 : end, 0);
        }
        DUE.is("methods found", methods > 80, true);
    }
}
