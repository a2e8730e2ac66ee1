import java.lang.reflect.Method;
import java.nio.file.Files;
import java.nio.file.Path;
import java.util.regex.Matcher;
import java.util.regex.Pattern;

/** README.md shows what the class answers: its text is fed and its calls are made as they stand there. */
public final class ReadmeTest {
    private static final Due DUE = new Due();

    public static void main(String[] args) throws Exception {
        String readme = Files.readString(Path.of("README.md"));
        DUE.about("README.md");
        FamilyGlass glass = new FamilyGlass();
        Due.feed(glass, block(readme, "text"));
        Matcher calls = Pattern.compile("(?m)^glass\\.(\\w+)\\((.*)\\); +// (-?\\d+|true|false)\\b").matcher(readme);
        int many = 0;
        while (calls.find()) {
            many++;
            String call = calls.group(1) + "(" + calls.group(2) + ")";
            Object got = answer(glass, calls.group(1), calls.group(2));
            DUE.is(call + " answered " + got + ", README has " + calls.group(3), calls.group(3).equals("" + got), true);
        }
        int lines = (int) Pattern.compile("(?m)^glass\\.").matcher(readme).results().count();
        DUE.is("calls", many, lines);
        DUE.is("there are calls", many > 0, true);
        for (Method method : FamilyGlass.class.getDeclaredMethods()) {
            if (java.lang.reflect.Modifier.isPublic(method.getModifiers())) {
                DUE.is("names " + method.getName(), readme.contains("`" + method.getName() + "`"), true);
            }
        }
        DUE.end();
    }

    private static String block(String readme, String kind) {
        Matcher block = Pattern.compile("```" + kind + "\n(.*?)```", Pattern.DOTALL).matcher(readme);
        return block.find() ? block.group(1) : "?";
    }

    private static Object answer(FamilyGlass glass, String name, String told) throws Exception {
        String[] parts = told.isEmpty() ? new String[0] : told.split(", ");
        Class<?>[] types = new Class<?>[parts.length];
        Object[] values = new Object[parts.length];
        for (int i = 0; i < parts.length; i++) {
            boolean so = parts[i].equals("true") || parts[i].equals("false");
            types[i] = so ? boolean.class : int.class;
            values[i] = so ? (Object) Boolean.valueOf(parts[i]) : (Object) Integer.valueOf(parts[i]);
        }
        return FamilyGlass.class.getMethod(name, types).invoke(glass, values);
    }
}
