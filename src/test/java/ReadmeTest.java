import java.io.IOException;
import java.lang.reflect.Method;
import java.nio.file.Files;
import java.nio.file.Path;
import java.util.regex.Matcher;
import java.util.regex.Pattern;

/** Each call that README.md shows, in its order, with the answer that stands behind it. */
public final class ReadmeTest {
    private static final Due due = new Due();
    private static final Pattern STEP = Pattern.compile("new BranTub\\(\\);|write\\(tub, ((?:\"[^\"]*\"[\\s+]*)+)\\);|tub\\.(\\w+)\\(([-\\d, ]*)\\); *// (-?\\w+)");

    private static int asked;

    public static void main(String[] args) throws ReflectiveOperationException, IOException {
        String page = Files.readString(Path.of("README.md"));
        Matcher shown = Pattern.compile("(?s)```java\n(.*?)```").matcher(page);
        BranTub tub = new BranTub();
        int blocks = 0;
        while (shown.find()) {
            blocks++;
            tub = follow(tub, shown.group(1));
        }
        due.is("blocks", 6, blocks);
        due.is("calls asked", true, asked > 40);
        writes(page);
        due.close();
    }

    private static BranTub follow(BranTub first, String block) throws ReflectiveOperationException {
        BranTub tub = first;
        Matcher step = STEP.matcher(block);
        while (step.find()) {
            if (step.group(1) != null) write(tub, step.group(1).replaceAll("\"[\\s+]*\"|\"\\s*$|^\"", ""));
            else if (step.group(2) != null) ask(tub, step.group(2), step.group(3), step.group(4));
            else tub = new BranTub();
        }
        return tub;
    }

    private static void ask(BranTub tub, String name, String told, String answer) throws ReflectiveOperationException {
        String[] numbers = told.isEmpty() ? new String[0] : told.split(", ");
        Class<?>[] types = new Class<?>[numbers.length];
        Object[] arguments = new Object[numbers.length];
        for (int i = 0; i < numbers.length; i++) {
            types[i] = int.class;
            arguments[i] = Integer.valueOf(numbers[i]);
        }
        asked++;
        Method call = BranTub.class.getMethod(name, types);
        String got = String.valueOf(call.invoke(tub, arguments));
        String shown = got.equals("-1") ? "NONE" : got;
        if (!shown.equals(answer)) System.out.println("README: " + name + "(" + told + ") answers " + shown);
        due.is("README: " + name + "(" + told + ") // " + answer, true, shown.equals(answer));
    }

    // README: write
    static void write(BranTub tub, String text) {
        for (int at = 0; at < text.length(); at += 20) {
            int[] five = new int[5];
            for (int i = 0; i < 20; i++) {
                int letter = at + i < text.length() ? text.charAt(at + i) : ' ';
                five[i / 4] = five[i / 4] << 8 | letter;
            }
            tub.feed(five[0], five[1], five[2], five[3], five[4]);
        }
        tub.end(text.length());
    }
    // README: end of write

    /** The page's write is the one that is used here. */
    private static void writes(String page) throws IOException {
        String own = Files.readString(Path.of("src/test/java/ReadmeTest.java"));
        String from = "// README: write\n";
        String here = own.substring(own.indexOf(from) + from.length(), own.indexOf("    // README: end of write\n"));
        due.is("README: write is as here", true, page.contains("```java\n" + here.replaceAll("(?m)^ {4}", "") + "```"));
    }
}
