import java.io.IOException;
import java.lang.reflect.Constructor;
import java.lang.reflect.Field;
import java.lang.reflect.Method;
import java.lang.reflect.Modifier;
import java.nio.file.Files;
import java.nio.file.Path;
import java.util.Arrays;
import java.util.List;
import java.util.Set;
import java.util.TreeSet;
import java.util.regex.Matcher;
import java.util.regex.Pattern;

/** The public face, and the rules of LANGUAGE.md that a program can look at. */
public final class FaceTest {
    private static final Kit KIT = new Kit("FaceTest");
    private static final String INDEX = "IndexOutOfBoundsException";
    private static final String STATE = "IllegalStateException";
    private static final String ARGUMENT = "IllegalArgumentException";
    private static final String[] FACE = {
        "int append(int, int, int, int, int)", "int parse(int) " + ARGUMENT, "int errorPosition()", "int hostCount()",
        "int clock()", "int free(int, boolean) " + INDEX, "int instancesOn(int) " + INDEX, "double utilisation()",
        "int spotPrice(int) " + INDEX, "int bestHost(int) " + INDEX, "int room(int) " + INDEX, "int running()",
        "int typeOf(int) " + INDEX, "int tenantOf(int) " + INDEX, "int hostOf(int) " + INDEX,
        "int bidOf(int) " + INDEX, "int noticeOf(int) " + INDEX, "int waiting()", "int waitingBid(int)",
        "long spent(int) " + INDEX, "int hourlyBill(int) " + INDEX, "int covered(int, int) " + INDEX,
        "boolean isOverBudget(int) " + INDEX, "boolean pays(int) " + INDEX, "int fewestHosts()",
        "int cheapestEviction(int, int) " + INDEX, "int migrationCost(int) " + INDEX,
        "int drainTo(int, int) " + INDEX + " " + STATE, "int priceAfter(int, int) " + INDEX + " " + ARGUMENT,
        "int evictedAfter(int) " + INDEX, "int pass(int) " + ARGUMENT + " " + STATE,
        "int launch(int, int) " + INDEX + " " + STATE,
        "int bid(int, int, int) " + INDEX + " " + ARGUMENT + " " + STATE, "int withdraw(int) " + INDEX,
        "int stop(int) " + INDEX, "int evict(int) " + INDEX + " " + STATE,
        "int migrate(int, int) " + INDEX + " " + STATE, "int drain(int) " + INDEX + " " + STATE, "int undo()",
        "boolean saveSnapshot(int) " + INDEX, "int restoreSnapshot(int) " + INDEX + " " + STATE};

    public static void main(String[] args) throws IOException {
        face();
        classes();
        source(Files.readString(Path.of("src/main/java/CloudMarket.java")));
        KIT.end();
    }

    private static void face() {
        Class<?> c = CloudMarket.class;
        KIT.due("public and final", Modifier.isPublic(c.getModifiers()) && Modifier.isFinal(c.getModifiers()), true);
        Set<String> got = new TreeSet<>();
        Set<String> names = new TreeSet<>();
        for (Method m : c.getDeclaredMethods()) {
            if (!Modifier.isPrivate(m.getModifiers())) {
                got.add(signature(m));
                names.add(m.getName());
                KIT.due(m.getName() + " is public", Modifier.isPublic(m.getModifiers()), true);
                KIT.due(m.getName() + " is static", Modifier.isStatic(m.getModifiers()), false);
            }
        }
        Set<String> want = new TreeSet<>(Arrays.asList(FACE));
        KIT.due("methods " + got, got.equals(want), true);
        for (Method m : c.getDeclaredMethods()) {
            boolean hidden = Modifier.isPrivate(m.getModifiers());
            KIT.due("private " + m.getName(), hidden && names.contains(m.getName()), false);
        }
        Constructor<?>[] made = c.getDeclaredConstructors();
        KIT.due("constructors", made.length, 1);
        KIT.due("public constructor", Modifier.isPublic(made[0].getModifiers()), true);
        KIT.due("its parameters", made[0].getParameterCount(), 0);
        for (Field f : c.getDeclaredFields()) {
            KIT.due("private field " + f.getName(), Modifier.isPrivate(f.getModifiers()), !f.getName().equals("NONE"));
        }
        KIT.due("NONE", CloudMarket.NONE, -1);
    }

    private static String signature(Method m) {
        StringBuilder s = new StringBuilder(m.getReturnType().getName()).append(' ').append(m.getName()).append('(');
        for (int k = 0; k < m.getParameterCount(); k++) {
            s.append(k == 0 ? "" : ", ").append(m.getParameterTypes()[k].getName());
        }
        s.append(')');
        for (Class<?> e : m.getExceptionTypes()) {
            s.append(' ').append(e.getSimpleName());
        }
        return s.toString();
    }

    private static void classes() {
        Class<?>[] inside = CloudMarket.class.getDeclaredClasses();
        KIT.due("at most 12 classes", inside.length + 1 <= 12, true);
        Set<String> face = new TreeSet<>();
        for (Method m : CloudMarket.class.getMethods()) {
            face.add(m.getName());
        }
        for (Class<?> c : inside) {
            KIT.due(c + " is static", Modifier.isStatic(c.getModifiers()), true);
            int fields = 0;
            for (Field f : c.getDeclaredFields()) {
                boolean fixed = Modifier.isStatic(f.getModifiers());
                fields += fixed ? 0 : 1;
                KIT.due(f + " is final if static", !fixed || Modifier.isFinal(f.getModifiers()), true);
            }
            KIT.due(c + " has at most 20 fields", fields <= 20, true);
            for (Method m : c.getDeclaredMethods()) {
                KIT.due(m + " has at most 7 parameters", m.getParameterCount() <= 7, true);
                KIT.due(m + " bears a name of the face", face.contains(m.getName()), false);
            }
        }
    }

    private static void source(String text) {
        for (String word : List.of("->", "::", "\\btry\\b", "\\bcatch\\b", "\\bfinally\\b", "\\bsynchronized\\b",
            "\\bassert\\b", "\\bObject\\b", "Exact\\(", "\\bSystem\\.(?!arraycopy)", "\\bpackage\\b", "\\bstatic \\{",
            "\\bThread\\b", "\\bRandom\\b", "\\bprotected\\b", "\\bsuper\\b", "\\bNaN\\b", "\\bhashCode\\b",
            "\\btoString\\b", "\\bequals\\b", "while \\(true\\)", "for \\(;;")) {
            KIT.due("source has " + word, Pattern.compile(word).matcher(text).find(), false);
        }
        Matcher imports = Pattern.compile("import ([^;]+);").matcher(text);
        while (imports.find()) {
            KIT.due("import of " + imports.group(1), imports.group(1).equals("java.util.Arrays"), true);
        }
        Matcher thrown = Pattern.compile("throw new (\\w+)\\(([^)]*)\\)").matcher(text);
        int count = 0;
        while (thrown.find()) {
            count++;
            KIT.due("throw of " + thrown.group(1), List.of(INDEX, STATE, ARGUMENT).contains(thrown.group(1)), true);
            KIT.due("text " + thrown.group(2), thrown.group(2).matches("\"[ -~]*\""), true);
        }
        KIT.due("every throw is of this form", count, Pattern.compile("\\bthrow\\b").matcher(text).results().count());
        KIT.due("plain signs alone", text.chars().allMatch(b -> b == 10 || b >= 32 && b < 127), true);
        lengths(text);
    }

    /** A method begins at 4 or 8 spaces and ends with a bracket at the same place. */
    private static void lengths(String text) {
        String[] lines = text.split("\n");
        for (int k = 0; k < lines.length; k++) {
            String indent = lines[k].replaceFirst("\\S.*$", "");
            boolean method = indent.length() == 4 || indent.length() == 8;
            if (method && lines[k].endsWith("{") && lines[k].contains("(") && !lines[k].contains(" class ")) {
                int end = k;
                while (!lines[end].equals(indent + "}") && !lines[end].startsWith(indent + "} ")) {
                    end++;
                }
                KIT.due("lines of " + lines[k].trim() + " up to 60", end - k < 60, true);
            }
            KIT.due("length of line " + (k + 1), lines[k].length() <= 120, true);
        }
    }
}
