import java.lang.reflect.Field;
import java.lang.reflect.Method;
import java.lang.reflect.Modifier;
import java.nio.file.Files;
import java.nio.file.Path;
import java.util.Arrays;
import java.util.HashSet;
import java.util.List;
import java.util.Set;
import java.util.regex.Matcher;
import java.util.regex.Pattern;

/** What can be seen of LANGUAGE.md in the program's text and in its compiled classes. */
public final class RulesTest {
    private static final Set<String> FACE = new HashSet<>(Arrays.asList("feed", "end", "scene", "fault",
            "named", "look", "layer", "spelt", "box", "at", "told", "hold", "find", "cycle", "marks", "shift",
            "hidden", "cell", "top", "ink", "seen", "same", "like", "take", "still", "changes", "saved",
            "turned", "best", "without", "doubled", "expose", "push", "pull", "turn", "raise", "twos", "undo",
            "keep", "back", "apart"));

    private RulesTest() {
    }

    public static void main(String[] args) throws Exception {
        String code = Files.readString(Path.of("src/main/java/CelSheet.java"));
        for (char sign : code.toCharArray()) {
            if (sign > 126 || sign == '\t') {
                Due.due("sign " + (int) sign + " in the text", 1, 0);
            }
        }
        String plain = code.replaceAll("(?s)/\\*.*?\\*/", "").replaceAll("//[^\n]*", "")
                .replaceAll("\"[^\"]*\"", "\"\"").replaceAll("'(\\\\.|[^'])'", "' '");
        forbidden(plain);
        face();
        for (Class<?> inside : CelSheet.class.getDeclaredClasses()) {
            inside(inside);
        }
        Due.due("too many classes", CelSheet.class.getDeclaredClasses().length + 1 <= 12, true);
        lengths(plain);
        Due.end("RulesTest");
    }

    private static void forbidden(String plain) {
        List<String> words = Arrays.asList("throw", "throws", "try", "catch", "finally", "synchronized", "assert",
                "double", "float", "volatile", "transient", "native", "record", "var", "yield", "Object", "System.out",
                "Integer.valueOf", "Math.random", "Thread", "HashMap", "Map", "Set", "Exception", "equals",
                "hashCode", "toString", "[a-z]+Exact");
        for (String word : words) {
            Due.due("the word " + word, Pattern.compile("\\b" + word + "\\b").matcher(plain).find(), false);
        }
        for (String sign : Arrays.asList("->", "::", "...", "@", "? extends", "?>", "\"\" +", "+ \"\"")) {
            Due.due("the sign " + sign, plain.contains(sign), false);
        }
        Matcher imports = Pattern.compile("import ([^;]*);").matcher(plain);
        while (imports.find()) {
            Due.due("import " + imports.group(1), imports.group(1).equals("java.util.Arrays"), true);
        }
        Matcher fill = Pattern.compile("Arrays\\.(\\w+)\\(([^;]*)\\);").matcher(plain);
        while (fill.find()) {
            Due.due("Arrays." + fill.group(1), fill.group(1).equals("fill"), true);
        }
        Due.due("package", plain.contains("package "), false);
        Due.due("a static block", Pattern.compile("static\\s*\\{").matcher(plain).find(), false);
    }

    private static void face() {
        Set<String> found = new HashSet<>();
        for (Method m : CelSheet.class.getDeclaredMethods()) {
            if (Modifier.isPublic(m.getModifiers())) {
                found.add(m.getName());
            } else {
                Due.due("private " + m.getName(), Modifier.isPrivate(m.getModifiers()), true);
                Due.due("a public name: " + m.getName(), FACE.contains(m.getName()), false);
            }
        }
        Due.due("the face", found.equals(FACE), true);
        Due.due("methods of the face", FACE.size(), 41);
        Due.due("constructors", CelSheet.class.getDeclaredConstructors().length, 1);
        fields(CelSheet.class);
    }

    private static void inside(Class<?> inside) {
        int way = inside.getModifiers();
        Due.due(inside + " is static", Modifier.isStatic(way), true);
        Due.due(inside + " is not public", Modifier.isPublic(way) || Modifier.isProtected(way), false);
        for (Method m : inside.getDeclaredMethods()) {
            Due.due(inside + " has a public name: " + m.getName(), FACE.contains(m.getName()), false);
            Due.due(inside + "." + m.getName() + " has too much to be told", m.getParameterCount() <= 7, true);
        }
        fields(inside);
    }

    private static void fields(Class<?> owner) {
        int own = 0;
        for (Field f : owner.getDeclaredFields()) {
            int way = f.getModifiers();
            boolean constant = f.getName().equals("NONE") || f.getName().equals("NOTHING");
            Due.due(owner + "." + f.getName() + " is private", Modifier.isPrivate(way) || constant, true);
            if (Modifier.isStatic(way)) {
                Due.due(owner + "." + f.getName() + " is final", Modifier.isFinal(way), true);
            } else {
                own++;
            }
        }
        Due.due(owner + " has too many fields", own <= 20, true);
    }

    private static void lengths(String plain) {
        Matcher start = Pattern.compile("\n( {4}| {8})(private|public)[^;={]*\\([^)]*\\) \\{\n").matcher(plain);
        int methods = 0;
        while (start.find()) {
            int stop = plain.indexOf("\n" + start.group(1) + "}", start.end() - 1);
            long lines = plain.substring(start.end(), stop).lines().count();
            Due.due("a method of " + lines + " lines: " + start.group().trim(), lines <= 60, true);
            methods++;
        }
        Due.due("methods are seen", methods > 100, true);
    }
}
