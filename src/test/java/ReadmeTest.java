import java.io.IOException;
import java.lang.reflect.InvocationTargetException;
import java.lang.reflect.Method;
import java.lang.reflect.Modifier;
import java.nio.file.DirectoryStream;
import java.nio.file.Files;
import java.nio.file.Path;
import java.util.ArrayList;
import java.util.List;
import java.util.regex.Matcher;
import java.util.regex.Pattern;

/** README.md: its calls return what stands behind them, and it names every method of the face and every test. */
public final class ReadmeTest {
    private static final Kit KIT = new Kit("ReadmeTest");
    private static final Pattern BLOCK = Pattern.compile("(?s)```java\\n(.*?)```");
    private static final Pattern TEXT = Pattern.compile("parse\\(market, ((?:\"[^\"]*\"[\\s+]*)+)\\);\\s*// (-?\\d+)");
    private static final Pattern CALL = Pattern.compile("market\\.(\\w+)\\(([^()]*)\\);\\s*// ((?:throws )?-?\\w+)");

    public static void main(String[] args) throws IOException {
        String page = Files.readString(Path.of("README.md"));
        List<String> blocks = new ArrayList<>();
        Matcher block = BLOCK.matcher(page);
        while (block.find()) {
            blocks.add(block.group(1));
        }
        KIT.due("blocks of Java", blocks.size(), 2);
        helper(blocks.get(0));
        example(blocks.get(1));
        names(page);
        KIT.end();
    }

    // The same lines as in README.md, which is looked at below.
    static int parse(CloudMarket market, String text) {
        String padded = text + " ".repeat((20 - text.length() % 20) % 20);
        for (int at = 0; at < padded.length(); at += 20) {
            int[] words = new int[5];
            for (int k = 0; k < 20; k++) {
                words[k / 4] = words[k / 4] << 8 | padded.charAt(at + k);
            }
            market.append(words[0], words[1], words[2], words[3], words[4]);
        }
        return market.parse(text.length());
    }

    private static void helper(String block) throws IOException {
        String own = Files.readString(Path.of("src/test/java/ReadmeTest.java")).replaceAll("\\s+", " ");
        KIT.due("the helper of the page is the one here", own.contains(block.replaceAll("\\s+", " ").trim()), true);
    }

    private static void example(String block) {
        CloudMarket market = new CloudMarket();
        Matcher text = TEXT.matcher(block);
        KIT.due("the example has a text", text.find(), true);
        String cloud = text.group(1).replaceAll("\"\\s*\\+\\s*\"", "").replaceAll("^\"|\"$", "");
        KIT.due("parse of " + cloud, parse(market, cloud), Long.parseLong(text.group(2)));
        Matcher call = CALL.matcher(block);
        int calls = 0;
        while (call.find()) {
            calls++;
            String got = answer(market, call.group(1), call.group(2));
            KIT.due(call.group() + ", not " + got, got.equals(call.group(3)), true);
        }
        int lines = block.split("\n").length;
        // The other lines are the new object and the two of the text.
        KIT.due("lines that are calls", calls, lines - 3);
    }

    private static String answer(CloudMarket market, String name, String arguments) {
        Method method = find(name);
        String[] parts = arguments.isEmpty() ? new String[0] : arguments.split(", ");
        Object[] given = new Object[parts.length];
        for (int k = 0; k < parts.length; k++) {
            boolean flag = method.getParameterTypes()[k] == boolean.class;
            given[k] = flag ? (Object) Boolean.valueOf(parts[k]) : (Object) Integer.valueOf(parts[k]);
        }
        try {
            return String.valueOf(method.invoke(market, given));
        } catch (InvocationTargetException e) {
            return "throws " + e.getCause().getClass().getSimpleName();
        } catch (IllegalAccessException e) {
            throw new IllegalStateException(e);
        }
    }

    private static Method find(String name) {
        for (Method m : CloudMarket.class.getDeclaredMethods()) {
            if (m.getName().equals(name)) {
                return m;
            }
        }
        throw new IllegalStateException("no method " + name);
    }

    private static void names(String page) throws IOException {
        for (Method m : CloudMarket.class.getDeclaredMethods()) {
            if (Modifier.isPublic(m.getModifiers())) {
                boolean named = Pattern.compile("`" + m.getName() + "[`(]").matcher(page).find();
                KIT.due("the page names " + m.getName(), named, true);
                for (Class<?> thrown : m.getExceptionTypes()) {
                    KIT.due("the page names " + thrown, page.contains("`" + thrown.getSimpleName() + "`"), true);
                }
            }
        }
        try (DirectoryStream<Path> files = Files.newDirectoryStream(Path.of("src/test/java"), "*Test.java")) {
            for (Path file : files) {
                String test = file.getFileName().toString().replace(".java", "");
                KIT.due("the page names " + test, page.contains("| " + test + " |"), true);
            }
        }
    }
}
