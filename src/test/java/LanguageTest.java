import java.io.IOException;
import java.lang.reflect.Field;
import java.lang.reflect.Modifier;
import java.nio.file.Files;
import java.nio.file.Path;
import java.util.ArrayList;
import java.util.List;
import java.util.Set;
import java.util.regex.Matcher;
import java.util.regex.Pattern;

/** The rules of LANGUAGE.md that can be seen in the class's text. */
public final class LanguageTest {
    private static final Due due = new Due();

    public static void main(String[] args) throws IOException {
        String source = Files.readString(Path.of("src/main/java/BranTub.java"));
        String code = source.replaceAll("(?s)/\\*.*?\\*/", "").replaceAll("//[^\n]*", "");
        String bare = code.replaceAll("\"[^\"\n]*\"", "\"\"").replaceAll("'.'", "' '");
        none("rule 1, 4", bare, "\\b(package|import)\\b");
        none("rule 2", bare, "->|::");
        none("rule 6", bare, "\\b(throw|throws|try|catch|finally|synchronized|assert)\\b");
        none("rule 6", bare, "\\b(equals|hashCode|toString)\\b");
        none("rule 3", bare, "\\b(Object|Map|Set|HashMap|var)\\b");
        none("rule 4", bare, "\\bSystem\\.(?!arraycopy)|\\bMath\\.\\w*Exact\\b");
        none("rule 5", bare, "\\bstatic\\s*\\{");
        none("rule 5", bare, "\\bstatic\\s+(?!final\\b)\\w+(\\[\\])*\\s+\\w+\\s*[=;]");
        none("rule 10", code, "\"\\s*\\+|\\+\\s*\"");
        none("rule 12", methodBodies(bare), "\\bnew\\b");
        due.is("signs 1 to 127", true, source.chars().allMatch(c -> c > 0 && c < 128));
        due.is("rule 11: classes", true, count(bare, "\\bclass \\w+") <= 12);
        methods(bare);
        fields(BranTub.class);
        for (Class<?> inside : BranTub.class.getDeclaredClasses()) {
            due.is("rule 1: " + inside + " is static, not public or protected", Modifier.STATIC, inside.getModifiers() & (Modifier.STATIC | Modifier.PUBLIC | Modifier.PROTECTED));
            fields(inside);
        }
        due.close();
    }

    /** Some twenty of an object's own; those of the class are final, and numbers, texts or rows of numbers. */
    private static void fields(Class<?> of) {
        int own = 0;
        for (Field field : of.getDeclaredFields()) {
            boolean ofClass = Modifier.isStatic(field.getModifiers());
            if (!ofClass) own++;
            Class<?> type = field.getType().isArray() ? field.getType().getComponentType() : field.getType();
            due.is("rule 5: " + field, true, !ofClass || Modifier.isFinal(field.getModifiers()) && (type.isPrimitive() || type == String.class));
            boolean open = (field.getModifiers() & (Modifier.PUBLIC | Modifier.PROTECTED)) != 0;
            due.is("rule 1: " + field, of == BranTub.class && field.getName().equals("NONE"), open);
            if (of == BranTub.class && !open) due.is("rule 1: " + field, true, Modifier.isPrivate(field.getModifiers()));
        }
        due.is("rule 11: fields of " + of, true, own <= 20);
    }

    private static int count(String text, String pattern) {
        Matcher matcher = Pattern.compile(pattern).matcher(text);
        int n = 0;
        while (matcher.find()) n++;
        return n;
    }

    private static void none(String rule, String text, String pattern) {
        Matcher matcher = Pattern.compile(pattern).matcher(text);
        due.is(rule + ": " + pattern, false, matcher.find());
    }

    private static final Pattern METHOD = Pattern.compile("(?m)^( {4}| {8})(?:(public|private) )?(?:static )?(?:int|long|boolean|void) (\\w+)\\(([^)]*)\\) \\{$");

    /** The bodies of all methods (constructors make what is made). */
    private static String methodBodies(String code) {
        StringBuilder all = new StringBuilder();
        Matcher matcher = METHOD.matcher(code);
        while (matcher.find()) all.append(code, matcher.start(), code.indexOf("\n" + matcher.group(1) + "}", matcher.start())).append('\n');
        return all.toString();
    }

    private static void methods(String code) {
        List<String> publics = new ArrayList<>();
        List<String> others = new ArrayList<>();
        Matcher matcher = METHOD.matcher(code);
        while (matcher.find()) {
            String name = matcher.group(3);
            ("public".equals(matcher.group(2)) ? publics : others).add(name);
            String body = code.substring(matcher.start(), code.indexOf("\n" + matcher.group(1) + "}", matcher.start()));
            due.is("rule 11: lines of " + name, true, body.lines().count() <= 60);
            due.is("rule 11: parameters of " + name, true, matcher.group(4).split(",").length <= 7);
        }
        due.is("public methods", 32, publics.size());
        due.is("other methods are found", true, others.size() > 80);
        Set<String> faces = Set.copyOf(publics);
        for (String other : others) due.is("rule 1: no other method bears a public name: " + other, false, faces.contains(other));
    }
}
