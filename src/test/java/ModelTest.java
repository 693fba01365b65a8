import java.lang.reflect.InvocationTargetException;
import java.lang.reflect.Method;
import java.util.HashMap;
import java.util.Map;
import java.util.Random;

/** All promises: random runs of calls, each answer compared with that of the slow model. */
public final class ModelTest {
    private static final int RUNS = 400;
    private static final int CALLS = 300;
    private static final String[] NAMES = {"append", "parse", "errorPosition", "hostCount", "clock", "free",
        "instancesOn", "utilisation", "spotPrice", "bestHost", "room", "running", "typeOf", "tenantOf", "hostOf",
        "bidOf", "noticeOf", "waiting", "waitingBid", "spent", "hourlyBill", "covered", "isOverBudget", "pays",
        "fewestHosts", "cheapestEviction", "migrationCost", "drainTo", "priceAfter", "evictedAfter", "pass",
        "launch", "bid", "withdraw", "stop", "evict", "migrate", "drain", "undo", "saveSnapshot",
        "restoreSnapshot"};
    private static final String[] OFTEN = {"pass", "pass", "launch", "launch", "launch", "bid", "bid", "bid", "migrate",
        "fewestHosts", "cheapestEviction", "drainTo", "drain", "evictedAfter", "evict", "stop"};

    private static final Map<String, Method> METHODS = new HashMap<>();

    private static Random random = new Random(0);
    private static int wrong = 0;
    private static int compared = 0;
    private static int thrown = 0;

    public static void main(String[] args) {
        int runs = args.length > 0 ? Integer.parseInt(args[0]) : RUNS;
        int first = args.length > 1 ? Integer.parseInt(args[1]) : 0;
        for (int seed = first; seed < first + runs && wrong < 20; seed++) {
            random = new Random(seed);
            texts(seed);
            run(seed);
        }
        System.out.println("ModelTest: " + compared + " answers compared (" + thrown + " exceptions), " + wrong
            + " wrong");
        if (wrong != 0) {
            System.exit(1);
        }
    }

    // ---- texts

    private static int pick(int low, int high) {
        return low + random.nextInt(high - low + 1);
    }

    private static boolean chance(int percent) {
        return random.nextInt(100) < percent;
    }

    private static String text() {
        StringBuilder s = new StringBuilder();
        int size = pick(3, 16);
        for (int k = pick(1, chance(20) ? 8 : 4); k > 0; k--) {
            s.append("host ").append(pick(size / 2, size)).append(' ').append(pick(size / 2, size)).append(';');
        }
        int types = pick(1, chance(20) ? 6 : 4);
        int most = Math.max(1, size / pick(2, 5));
        // Where prices are low, so are bids, and sums of bids are often equal.
        boolean cheap = chance(30);
        for (int k = 0; k < types; k++) {
            s.append("type ").append(pick(1, most)).append(' ').append(pick(1, most)).append(' ')
                .append(cheap ? pick(1, 9) : chance(50) ? pick(1, 9999) : pick(1, 120)).append(";\n");
        }
        int tenants = pick(1, chance(20) ? 6 : 3);
        for (int k = 0; k < tenants; k++) {
            s.append("tenant ").append(chance(20) ? pick(0, 20) : 9999).append("; ");
        }
        for (int k = chance(40) ? 0 : pick(1, 5); k > 0; k--) {
            int from = pick(0, 20);
            s.append("reserve ").append(pick(0, tenants - 1)).append(' ').append(pick(0, types - 1)).append(' ')
                .append(pick(1, 4)).append(' ').append(from).append(' ').append(from + pick(1, 50)).append(' ')
                .append(pick(0, 100)).append(';');
        }
        if (chance(60)) {
            s.append("floor ").append(pick(1, 60)).append(';');
        }
        if (chance(80)) {
            s.append("notice ").append(chance(80) ? pick(0, 4) : pick(0, 48)).append(';');
        }
        if (chance(60)) {
            s.append("slope ").append(pick(0, 200)).append(';');
        }
        if (chance(70)) {
            s.append("move ").append(sum(0)).append(';');
        }
        return s.length() <= 800 ? s.toString() : "host 9 9;type 1 1 1;tenant 9;";
    }

    private static String sum(int depth) {
        StringBuilder s = new StringBuilder(factor(depth));
        while (chance(45)) {
            s.append("+-*/".charAt(pick(0, 3))).append(factor(depth));
        }
        return s.toString();
    }

    private static String factor(int depth) {
        if (depth < 5 && chance(30)) {
            return "(" + sum(depth + 1) + ")";
        }
        String[] names = {"cpu", "memory", "price", "age"};
        return chance(50) ? names[pick(0, 3)] : String.valueOf(chance(30) ? pick(0, 9999) : pick(0, 9));
    }

    /** A text with a few changes, most of which are errors. */
    private static String spoiled() {
        StringBuilder s = new StringBuilder(text());
        String[] pieces = {";", "(", ")", "+", "-", "*", "/", " ", "\n", "0", "7", "99", "12345", "host ", "type ",
            "tenant ", "reserve ", "floor ", "notice ", "slope ", "move ", "cpu", "age", "price", "memory", "a", "z",
            "A", "?", "\u00ff", "\u0000", "((((((", "floor 5;", "move 1;", "host 1 1;", "tenant 0;", "type 1 1 1;"};
        for (int k = pick(1, 3); k > 0; k--) {
            int at = pick(0, s.length());
            if (chance(40) && at < s.length()) {
                s.delete(at, Math.min(s.length(), at + pick(1, 4)));
            } else {
                s.insert(at, pieces[pick(0, pieces.length - 1)]);
            }
        }
        return s.length() <= 800 ? s.toString() : s.substring(0, 800);
    }

    private static void texts(int seed) {
        for (int k = 0; k < 20; k++) {
            CloudMarket x = new CloudMarket();
            Model y = new Model();
            String text = spoiled();
            enter(x, y, text);
            compare(seed, "parse of [" + text + "]", x.parse(text.length()), y.parse(text.length()));
            compare(seed, "position of [" + text + "]", x.errorPosition(), y.errorPosition());
            compare(seed, "hosts of [" + text + "]", x.hostCount(), y.hostCount());
        }
    }

    private static void enter(CloudMarket x, Model y, String text) {
        String padded = text + " ".repeat((20 - text.length() % 20) % 20);
        for (int at = 0; at < padded.length(); at += 20) {
            int[] w = new int[5];
            for (int k = 0; k < 20; k++) {
                w[k / 4] = w[k / 4] << 8 | padded.charAt(at + k);
            }
            x.append(w[0], w[1], w[2], w[3], w[4]);
            y.append(w[0], w[1], w[2], w[3], w[4]);
        }
    }

    // ---- runs

    private static void run(int seed) {
        CloudMarket x = new CloudMarket();
        Model y = new Model();
        newCloud(seed, x, y);
        for (int k = 0; k < CALLS && wrong < 20; k++) {
            if (chance(1) && chance(40)) {
                newCloud(seed, x, y);
            }
            String name = chance(60) ? OFTEN[pick(0, OFTEN.length - 1)] : NAMES[pick(0, NAMES.length - 1)];
            int[] a = {argument(), argument(), argument(), argument(), argument()};
            shape(y, name, a);
            String call = name + "(" + a[0] + ", " + a[1] + ", " + a[2] + ") as call " + k;
            String got = answer(x, name, a);
            String want = answer(y, name, a);
            compare(seed, call, got, want);
        }
    }

    private static void newCloud(int seed, CloudMarket x, Model y) {
        x.parse(0);
        y.parse(0);
        String text = text();
        enter(x, y, text);
        compare(seed, "parse of " + text, x.parse(text.length()), y.parse(text.length()));
    }

    private static int argument() {
        return chance(93) ? pick(0, 3) : chance(80) ? pick(-1, 12) : random.nextInt();
    }

    /** What the arguments of a call are, a letter each: Host, Type, teNant, Instance, Reservation, other. */
    private static String kinds(String name) {
        return switch (name) {
            case "free", "instancesOn", "drain" -> "H";
            case "spotPrice", "bestHost", "room", "priceAfter" -> "T";
            case "spent", "hourlyBill", "isOverBudget", "withdraw" -> "N";
            case "covered", "launch", "bid" -> "NT";
            case "pays" -> "R";
            case "cheapestEviction" -> "HT";
            case "drainTo" -> "HI";
            case "migrate" -> "IH";
            case "typeOf", "tenantOf", "hostOf", "bidOf", "noticeOf", "migrationCost", "evictedAfter", "stop",
                "evict" -> "I";
            default -> "";
        };
    }

    /** Makes the arguments of a call mostly sensible. */
    private static void shape(Model y, String name, int[] a) {
        String kinds = kinds(name);
        for (int k = 0; k < kinds.length(); k++) {
            if (chance(96)) {
                a[k] = number(y, kinds.charAt(k));
            }
        }
        if (name.equals("pass") && chance(95)) {
            a[0] = chance(80) ? pick(1, 4) : chance(80) ? pick(1, 30) : pick(1, 500);
        } else if (name.equals("priceAfter") && chance(90)) {
            a[1] = chance(80) ? pick(0, 12) : pick(0, 200);
        } else if (name.equals("bid") && chance(95)) {
            boolean near = a[1] >= 0 && a[1] < y.typeCount() && chance(70);
            a[2] = near ? Math.min(9999, pick(1, 2 * y.spotPrice(a[1]) + 1)) : chance(50) ? pick(1, 150) : pick(1, 6);
        } else if (name.equals("drainTo") && chance(60) && (y.running() >> a[1] & 1) != 0 && a[1] >= 0 && a[1] < 12) {
            a[0] = y.hostOf(a[1]);
        } else if (name.equals("parse") && chance(95)) {
            a[0] = -1;
        } else if (name.equals("waitingBid")) {
            a[0] = pick(-1, 10);
        } else if (name.endsWith("Snapshot") && chance(90)) {
            a[0] = pick(0, 1);
        }
    }

    private static int number(Model y, char kind) {
        if (kind == 'I') {
            int k = pick(0, 11);
            for (int n = 0; n < 12 && (y.running() >> k & 1) == 0; n++) {
                k = (k + 1) % 12;
            }
            return k;
        }
        int many = kind == 'H' ? y.hostCount() : kind == 'T' ? y.typeCount() : kind == 'N' ? y.tenantCount()
            : y.reservationCount();
        return many == 0 ? 0 : pick(0, many - 1);
    }

    /** The answer of a call by its name, or the name of what it throws. */
    private static String answer(Object x, String name, int[] a) {
        Method method = METHODS.computeIfAbsent(x.getClass().getName() + "." + name, key -> find(x, name));
        Object[] given = new Object[method.getParameterCount()];
        for (int k = 0; k < given.length; k++) {
            boolean flag = method.getParameterTypes()[k] == boolean.class;
            given[k] = flag ? (Object) (a[k] % 2 == 0) : (Object) a[k];
        }
        try {
            return String.valueOf(method.invoke(x, given));
        } catch (InvocationTargetException e) {
            thrown++;
            return e.getCause().getClass().getSimpleName();
        } catch (IllegalAccessException e) {
            throw new IllegalStateException(e);
        }
    }

    private static Method find(Object x, String name) {
        for (Method m : x.getClass().getDeclaredMethods()) {
            if (m.getName().equals(name)) {
                return m;
            }
        }
        throw new IllegalStateException("no method " + name);
    }

    private static void compare(int seed, String call, Object got, Object want) {
        compared++;
        if (!got.equals(want)) {
            wrong++;
            System.out.println("seed " + seed + ": " + call + " answered " + got + ", the model says " + want);
        }
    }
}
