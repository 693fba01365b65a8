import java.util.HashMap;
import java.util.Map;

/**
 * Every refused call: with the exception that the document names, in the order in which it says that they are
 * checked, and with nothing changed by it. What cannot be asked without a change (the history, the slots, the
 * buffer) is compared with a twin in the same situation that has not seen the call.
 */
public final class RefusedTest {
    private static final Kit KIT = new Kit("RefusedTest");
    private static final Map<String, String> TWINS = new HashMap<>();
    private static final Class<?> INDEX = IndexOutOfBoundsException.class;
    private static final Class<?> ARGUMENT = IllegalArgumentException.class;
    private static final Class<?> STATE = IllegalStateException.class;
    private static final int MOST = Integer.MAX_VALUE;
    private static final int LEAST = Integer.MIN_VALUE;

    private interface Call {
        long on(CloudMarket x);
    }

    private interface NumberCall {
        long on(CloudMarket x, int number);
    }

    public static void main(String[] args) {
        hosts();
        types();
        tenants();
        reservations();
        instances();
        slots();
        nothingThere();
        parse();
        drainTo();
        priceAfter();
        pass();
        launch();
        bid();
        evict();
        migrate();
        drain();
        restoreSnapshot();
        appendWhenFull();
        questions();
        KIT.end();
    }

    // ---- what is compared

    private static CloudMarket scene(String name) {
        return switch (name) {
            case "busy" -> Scenes.busy();
            case "full" -> Scenes.full();
            case "late" -> Scenes.late();
            case "bare" -> Scenes.bare();
            default -> new CloudMarket();
        };
    }

    /** All that a market would still answer about its past: it is used up by this. */
    private static String past(CloudMarket x) {
        StringBuilder all = new StringBuilder();
        for (int k = 0; k < 11; k++) {
            all.append(" undo ").append(x.undo()).append(Look.brief(x));
        }
        return all.toString();
    }

    private static String slot(CloudMarket x, int slot) {
        try {
            return x.restoreSnapshot(slot) + Look.brief(x);
        } catch (IllegalStateException e) {
            return "empty";
        }
    }

    private static String buffer(CloudMarket x) {
        StringBuilder all = new StringBuilder();
        int length = x.append(0x686F7374, 0x20332033, 0x3B202020, 0x20202020, 0x20202020);
        all.append(" length ").append(length).append(" code ").append(x.parse(Math.max(0, length)));
        for (int k = 0; k < x.hostCount(); k++) {
            all.append(' ').append(x.free(k, true));
        }
        return all.toString();
    }

    private static String probe(CloudMarket x, int kind) {
        return kind == 0 ? past(x) : kind == 1 ? buffer(x) : slot(x, kind - 2);
    }

    /** Whether a call changes nothing in a scene, whatever it answers. */
    private static void changesNothing(String what, String scene, Call call) {
        CloudMarket x = scene(scene);
        String before = Look.of(x);
        quietly(x, call);
        Look.same(KIT, what + " in " + scene, Look.of(x), before);
        for (int kind = 0; kind < 4; kind++) {
            int probed = kind;
            CloudMarket y = scene(scene);
            quietly(y, call);
            String want = TWINS.computeIfAbsent(scene + kind, key -> probe(scene(scene), probed));
            Look.same(KIT, what + " in " + scene + ", probe " + kind, probe(y, kind), want);
        }
    }

    private static void quietly(CloudMarket x, Call call) {
        try {
            call.on(x);
        } catch (RuntimeException e) {
            // Which exception it is, is looked at elsewhere.
            return;
        }
    }

    private static void refused(String what, String scene, Class<?> want, Call call) {
        CloudMarket x = scene(scene);
        Kit.Call asked = () -> call.on(x);
        if (want == INDEX) {
            KIT.index(what + " in " + scene, asked);
        } else if (want == ARGUMENT) {
            KIT.argument(what + " in " + scene, asked);
        } else {
            KIT.state(what + " in " + scene, asked);
        }
        changesNothing(what, scene, call);
    }

    /** A call with numbers that do not exist, for the scene in which there are so many that do. */
    private static void numbers(String what, String scene, int many, NumberCall call) {
        // With 32 more, a shift by the number would be that of one that exists.
        int[] wrong = {-1, many, many + 1, 8, 12, 31, 32, 33, 64, -32, -31, MOST, LEAST, LEAST + 1, 1 << 30};
        for (int k : wrong) {
            if (k < 0 || k >= many) {
                refused(what + " " + k, scene, INDEX, x -> call.on(x, k));
            }
        }
    }

    private static long bit(boolean b) {
        return b ? 1 : 0;
    }

    // ---- numbers that do not exist

    private static void hosts() {
        KIT.says(0, "Unless something else is said, a number of a host, type, tenant, instance (of a running one) or "
            + "reservation that does not exist causes an IndexOutOfBoundsException, which is checked before any other "
            + "exception.");
        KIT.says(0, "A method that throws an exception changes nothing.");
        KIT.says(7, "Throws `IndexOutOfBoundsException` if there is no such host");
        numbers("free cpu of", "busy", 3, (x, k) -> x.free(k, false));
        numbers("free memory of", "busy", 3, (x, k) -> x.free(k, true));
        KIT.says(8, "Throws `IndexOutOfBoundsException` if there is no such host");
        numbers("instancesOn", "busy", 3, CloudMarket::instancesOn);
        KIT.says(27, "Throws `IndexOutOfBoundsException` if there is no such host or type");
        numbers("cheapestEviction on", "busy", 3, (x, k) -> x.cheapestEviction(k, 0));
        numbers("cheapestEviction for", "busy", 3, (x, k) -> x.cheapestEviction(0, k));
        numbers("cheapestEviction of both", "busy", 3, (x, k) -> x.cheapestEviction(k, k));
        KIT.says(29, "Throws `IndexOutOfBoundsException` if there is no such host or running instance (checked first)");
        numbers("drainTo of host", "busy", 3, (x, k) -> x.drainTo(k, 0));
        KIT.says(38, "Throws `IndexOutOfBoundsException` if there is no such instance or host (checked first)");
        numbers("migrate to", "busy", 3, (x, k) -> x.migrate(0, k));
        KIT.says(39, "Throws `IndexOutOfBoundsException` if there is no such host (checked first)");
        numbers("drain", "busy", 3, CloudMarket::drain);
    }

    private static void types() {
        KIT.says(10, "Throws `IndexOutOfBoundsException` if there is no such type");
        numbers("spotPrice", "busy", 3, CloudMarket::spotPrice);
        KIT.says(11, "Throws `IndexOutOfBoundsException` if there is no such type");
        numbers("bestHost", "busy", 3, CloudMarket::bestHost);
        KIT.says(12, "Throws `IndexOutOfBoundsException` if there is no such type");
        numbers("room", "busy", 3, CloudMarket::room);
        KIT.says(23, "Throws `IndexOutOfBoundsException` if there is no such tenant or type");
        numbers("covered of type", "busy", 3, (x, k) -> x.covered(0, k));
        numbers("covered of tenant", "busy", 3, (x, k) -> x.covered(k, 0));
        numbers("covered of both", "busy", 3, (x, k) -> x.covered(k, k));
        KIT.says(30, "Throws `IndexOutOfBoundsException` if there is no such type (checked first)");
        numbers("priceAfter", "busy", 3, (x, k) -> x.priceAfter(k, 5));
        KIT.says(33, "Throws `IndexOutOfBoundsException` if there is no such tenant or type (checked first)");
        numbers("launch of type", "busy", 3, (x, k) -> x.launch(0, k));
        numbers("launch by", "busy", 3, (x, k) -> x.launch(k, 0));
        KIT.says(34, "Throws `IndexOutOfBoundsException` if there is no such tenant or type (checked first)");
        numbers("bid for type", "busy", 3, (x, k) -> x.bid(0, k, 5));
        numbers("bid by", "busy", 3, (x, k) -> x.bid(k, 0, 5));
    }

    private static void tenants() {
        KIT.says(21, "Throws `IndexOutOfBoundsException` if there is no such tenant");
        numbers("spent", "busy", 3, CloudMarket::spent);
        KIT.says(22, "Throws `IndexOutOfBoundsException` if there is no such tenant");
        numbers("hourlyBill", "busy", 3, CloudMarket::hourlyBill);
        KIT.says(24, "Throws `IndexOutOfBoundsException` if there is no such tenant");
        numbers("isOverBudget", "busy", 3, (x, k) -> bit(x.isOverBudget(k)));
        KIT.says(35, "Throws `IndexOutOfBoundsException` if there is no such tenant");
        numbers("withdraw", "busy", 3, CloudMarket::withdraw);
        numbers("withdraw", "full", 2, CloudMarket::withdraw);
    }

    private static void reservations() {
        KIT.says(25, "Throws `IndexOutOfBoundsException` if there is no such reservation");
        numbers("pays", "busy", 2, (x, k) -> bit(x.pays(k)));
        numbers("pays", "bare", 0, (x, k) -> bit(x.pays(k)));
    }

    private static void instances() {
        // Six run; a seventh number does not, nor one that ran and was stopped.
        KIT.says(14, "Throws `IndexOutOfBoundsException` if no running instance has this number");
        instance("typeOf", CloudMarket::typeOf);
        KIT.says(15, "Throws `IndexOutOfBoundsException` if no running instance has this number");
        instance("tenantOf", CloudMarket::tenantOf);
        KIT.says(16, "Throws `IndexOutOfBoundsException` if no running instance has this number");
        instance("hostOf", CloudMarket::hostOf);
        KIT.says(17, "Throws `IndexOutOfBoundsException` if no running instance has this number");
        instance("bidOf", CloudMarket::bidOf);
        KIT.says(18, "Throws `IndexOutOfBoundsException` if no running instance has this number");
        instance("noticeOf", CloudMarket::noticeOf);
        KIT.says(28, "Throws `IndexOutOfBoundsException` if no running instance has this number");
        instance("migrationCost", CloudMarket::migrationCost);
        KIT.says(31, "Throws `IndexOutOfBoundsException` if no running instance has this number");
        instance("evictedAfter", CloudMarket::evictedAfter);
        KIT.says(36, "Throws `IndexOutOfBoundsException` if no running instance has this number");
        instance("stop", CloudMarket::stop);
        KIT.says(37, "Throws `IndexOutOfBoundsException` if no running instance has this number (checked first)");
        instance("evict", CloudMarket::evict);
        KIT.says(38, "Throws `IndexOutOfBoundsException` if there is no such instance or host (checked first)");
        instance("migrate", (x, k) -> x.migrate(k, 0));
        KIT.says(29, "Throws `IndexOutOfBoundsException` if there is no such host or running instance (checked first)");
        instance("drainTo", (x, k) -> x.drainTo(0, k));
    }

    private static void instance(String what, NumberCall call) {
        numbers(what, "busy", 6, call);
        numbers(what, "full", 12, call);
        numbers(what, "bare", 0, call);
        CloudMarket x = Scenes.busy();
        x.stop(2);
        KIT.index(what + " of a stopped one", () -> call.on(x, 2));
        CloudMarket y = Scenes.busy();
        y.launch(0, 0);
        y.undo();
        KIT.index(what + " of one whose start was undone", () -> call.on(y, 6));
        CloudMarket z = KIT.market("host 1 1;type 1 1 100;tenant 9;notice 0;");
        z.bid(0, 0, 99);
        KIT.due("evicted", z.pass(3), 1);
        KIT.index(what + " of an evicted one", () -> call.on(z, 0));
    }

    private static void slots() {
        KIT.says(41, "Throws `IndexOutOfBoundsException` if there is no such slot");
        numbers("saveSnapshot", "busy", 2, (x, k) -> bit(x.saveSnapshot(k)));
        numbers("saveSnapshot", "full", 2, (x, k) -> bit(x.saveSnapshot(k)));
        KIT.says(42, "Throws `IndexOutOfBoundsException` if there is no such slot (checked first)");
        numbers("restoreSnapshot", "busy", 2, CloudMarket::restoreSnapshot);
        numbers("restoreSnapshot", "full", 2, CloudMarket::restoreSnapshot);
        numbers("restoreSnapshot", "new", 2, CloudMarket::restoreSnapshot);
    }

    /** In a new object no number exists, and other reasons to refuse come later. */
    private static void nothingThere() {
        KIT.says(1, "Creates a simulator of an empty cloud (no hosts, types, tenants and reservations, everything else as "
            + "without its statement) with an empty input buffer.");
        NumberCall[] calls = {(x, k) -> x.free(k, true), CloudMarket::instancesOn, CloudMarket::spotPrice,
            CloudMarket::bestHost, CloudMarket::room, CloudMarket::typeOf, CloudMarket::tenantOf, CloudMarket::hostOf,
            CloudMarket::bidOf, CloudMarket::noticeOf, CloudMarket::spent, CloudMarket::hourlyBill,
            (x, k) -> x.covered(k, k), (x, k) -> bit(x.isOverBudget(k)), (x, k) -> bit(x.pays(k)),
            (x, k) -> x.cheapestEviction(k, k), CloudMarket::migrationCost, (x, k) -> x.drainTo(k, k),
            (x, k) -> x.priceAfter(k, 0), (x, k) -> x.priceAfter(k, 201), CloudMarket::evictedAfter,
            (x, k) -> x.launch(k, k), (x, k) -> x.bid(k, k, 1), (x, k) -> x.bid(k, k, 0), CloudMarket::withdraw,
            CloudMarket::stop, CloudMarket::evict, (x, k) -> x.migrate(k, k), CloudMarket::drain};
        for (int n = 0; n < calls.length; n++) {
            NumberCall call = calls[n];
            refused("call " + n, "new", INDEX, x -> call.on(x, 0));
            refused("call " + n, "new", INDEX, x -> call.on(x, -1));
        }
    }

    // ---- other reasons, and the order of reasons

    private static void parse() {
        KIT.says(3, "Throws `IllegalArgumentException` if length is out of range");
        int[] wrong = {-1, 21, 22, 800, 801, MOST, LEAST};
        for (int length : wrong) {
            refused("parse of " + length, "busy", ARGUMENT, x -> x.parse(length));
        }
        int[] any = {-1, 1, 20, 800, MOST, LEAST};
        for (int length : any) {
            refused("parse of " + length, "new", ARGUMENT, x -> x.parse(length));
            refused("parse of " + length, "full", ARGUMENT, x -> x.parse(length));
        }
    }

    private static void drainTo() {
        KIT.says(29, "Throws `IllegalStateException` if the instance is not on the host, or the host has more than 5 "
            + "instances");
        refused("not on the host", "busy", STATE, x -> x.drainTo(0, 0));
        refused("not on the host", "busy", STATE, x -> x.drainTo(2, 5));
        refused("more than 5", "full", STATE, x -> x.drainTo(0, 0));
        refused("more than 5", "full", STATE, x -> x.drainTo(0, 11));
        refused("not on an empty host", "full", STATE, x -> x.drainTo(1, 0));
        refused("more than 5, but no such instance", "full", INDEX, x -> x.drainTo(0, 12));
        refused("empty host, but no such instance", "full", INDEX, x -> x.drainTo(1, -1));
        refused("no such host", "full", INDEX, x -> x.drainTo(2, 0));
        changesNothing("an answer", "busy", x -> x.drainTo(1, 0));
        changesNothing("the answer NONE", "busy", x -> x.drainTo(0, 2));
    }

    private static void priceAfter() {
        KIT.says(30, "Throws `IllegalArgumentException` if hours is out of range");
        int[] wrong = {-1, 201, 202, 500, MOST, LEAST};
        for (int hours : wrong) {
            refused("hours " + hours, "busy", ARGUMENT, x -> x.priceAfter(0, hours));
            refused("type first, hours " + hours, "busy", INDEX, x -> x.priceAfter(3, hours));
            refused("type first, hours " + hours, "busy", INDEX, x -> x.priceAfter(-1, hours));
        }
    }

    private static void pass() {
        KIT.says(32, "Throws `IllegalArgumentException` if hours is out of range (checked first)");
        int[] wrong = {0, -1, 501, 502, 9999, 10000, MOST, LEAST};
        for (int hours : wrong) {
            refused("hours " + hours, "busy", ARGUMENT, x -> x.pass(hours));
            refused("argument first, hours " + hours, "late", ARGUMENT, x -> x.pass(hours));
        }
        KIT.says(32, "Throws `IllegalStateException` if the clock would exceed 9999");
        refused("one hour", "late", STATE, x -> x.pass(1));
        refused("most hours", "late", STATE, x -> x.pass(500));
    }

    private static void launch() {
        KIT.says(33, "Throws `IllegalStateException` if the tenant is over budget, 12 instances run, or the type fits no "
            + "host");
        refused("over budget", "busy", STATE, x -> x.launch(1, 0));
        refused("fits no host", "busy", STATE, x -> x.launch(0, 2));
        refused("over budget, fits no host", "busy", STATE, x -> x.launch(1, 2));
        refused("12 run", "full", STATE, x -> x.launch(0, 0));
        refused("12 run, over budget", "full", STATE, x -> x.launch(1, 0));
        refused("no hosts", "bare", STATE, x -> x.launch(0, 0));
        refused("over budget, no such type", "busy", INDEX, x -> x.launch(1, 3));
        refused("over budget, no such type", "busy", INDEX, x -> x.launch(1, -1));
        refused("12 run, no such type", "full", INDEX, x -> x.launch(0, 2));
        refused("12 run, no such tenant", "full", INDEX, x -> x.launch(2, 0));
        refused("fits no host, no such tenant", "busy", INDEX, x -> x.launch(3, 2));
        refused("no hosts, no such tenant", "bare", INDEX, x -> x.launch(2, 0));
    }

    private static void bid() {
        KIT.says(34, "Throws `IllegalArgumentException` if price is out of range (checked second)");
        int[] wrong = {0, -1, 10000, 10001, MOST, LEAST};
        for (int price : wrong) {
            refused("price " + price, "busy", ARGUMENT, x -> x.bid(0, 0, price));
            refused("over budget, price " + price, "busy", ARGUMENT, x -> x.bid(1, 0, price));
            refused("10 wait, price " + price, "full", ARGUMENT, x -> x.bid(0, 0, price));
            refused("no such type, price " + price, "busy", INDEX, x -> x.bid(0, 3, price));
            refused("no such tenant, price " + price, "busy", INDEX, x -> x.bid(3, 0, price));
            refused("over budget, no such type, price " + price, "busy", INDEX, x -> x.bid(1, -1, price));
        }
        KIT.says(34, "Throws `IllegalStateException` if the tenant is over budget or there are 10 waiting requests");
        refused("over budget", "busy", STATE, x -> x.bid(1, 0, 1));
        refused("10 wait", "full", STATE, x -> x.bid(0, 0, 9999));
        refused("10 wait, over budget", "full", STATE, x -> x.bid(1, 0, 1));
        refused("10 wait, no such type", "full", INDEX, x -> x.bid(0, 2, 1));
        refused("10 wait, no such tenant", "full", INDEX, x -> x.bid(2, 0, 1));
        refused("over budget, no such type", "busy", INDEX, x -> x.bid(1, 3, 1));
    }

    private static void evict() {
        KIT.says(37, "Throws `IllegalStateException` if it is a regular instance or has a notice");
        refused("regular", "busy", STATE, x -> x.evict(0));
        refused("regular", "busy", STATE, x -> x.evict(5));
        refused("has a notice", "busy", STATE, x -> x.evict(3));
        refused("regular", "full", STATE, x -> x.evict(11));
        CloudMarket x = KIT.market("host 4 9;type 1 1 100;tenant 99;");
        x.bid(0, 0, 44);
        x.pass(2);
        KIT.due("a notice by the price", x.noticeOf(0), 4);
        KIT.state("has a notice", () -> x.evict(0));
        KIT.due("as before", x.noticeOf(0), 4);
    }

    private static void migrate() {
        KIT.says(38, "Throws `IllegalStateException` if the instance is on this host already or does not fit it");
        refused("on this host", "busy", STATE, x -> x.migrate(0, 1));
        refused("on this host", "busy", STATE, x -> x.migrate(4, 2));
        refused("does not fit", "busy", STATE, x -> x.migrate(2, 1));
        refused("does not fit", "busy", STATE, x -> x.migrate(4, 0));
        refused("on this host, with room", "full", STATE, x -> x.migrate(11, 0));
        refused("no such host", "full", INDEX, x -> x.migrate(0, 2));
        refused("neither", "full", INDEX, x -> x.migrate(12, 2));
    }

    private static void drain() {
        KIT.says(39, "Throws `IllegalStateException` if the host has no instances or more than 5, or cannot be drained");
        refused("cannot be drained", "busy", STATE, x -> x.drain(0));
        refused("more than 5", "full", STATE, x -> x.drain(0));
        refused("no instances", "full", STATE, x -> x.drain(1));
        refused("no such host", "full", INDEX, x -> x.drain(2));
    }

    private static void restoreSnapshot() {
        KIT.says(42, "Throws `IllegalStateException` if the slot is empty");
        refused("slot 1", "busy", STATE, x -> x.restoreSnapshot(1));
        refused("slot 0", "full", STATE, x -> x.restoreSnapshot(0));
        refused("slot 0", "new", STATE, x -> x.restoreSnapshot(0));
        refused("slot 1", "new", STATE, x -> x.restoreSnapshot(1));
    }

    // ---- calls that answer and change nothing

    private static void appendWhenFull() {
        KIT.says(2, "Returns the new length of the buffer; NONE, with nothing appended, if it would exceed 800.");
        CloudMarket x = Scenes.busy();
        for (int length = 40; length <= 800; length += 20) {
            KIT.due("append", x.append(0x20202020, 0x20202020, 0x20202020, 0x20202020, 0x20202020), length);
        }
        String before = Look.of(x);
        KIT.due("full", x.append(-1, -1, -1, -1, -1), -1);
        Look.same(KIT, "nothing else", Look.of(x), before);
        KIT.due("the buffer as it was", x.parse(800), 0);
        KIT.due("two hosts", x.hostCount(), 2);
    }

    private static void questions() {
        KIT.says(30, "predictions: nothing changes by them");
        Call[] calls = {x -> x.priceAfter(0, 0), x -> x.priceAfter(0, 1), x -> x.priceAfter(0, 200),
            x -> x.evictedAfter(0), x -> x.evictedAfter(3), x -> x.evictedAfter(4)};
        for (int k = 0; k < calls.length; k++) {
            changesNothing("prediction " + k, "busy", calls[k]);
            changesNothing("prediction " + k, "full", calls[k]);
            changesNothing("prediction " + k, "late", calls[k]);
        }
        Call[] others = {CloudMarket::errorPosition, CloudMarket::hostCount, CloudMarket::clock, x -> x.free(0, true),
            x -> x.instancesOn(0), x -> (long) x.utilisation(), x -> x.spotPrice(0), x -> x.bestHost(0), x -> x.room(0),
            CloudMarket::running, x -> x.typeOf(0), x -> x.tenantOf(0), x -> x.hostOf(0), x -> x.bidOf(0),
            x -> x.noticeOf(0), CloudMarket::waiting, x -> x.waitingBid(0), x -> x.waitingBid(-1), x -> x.spent(0),
            x -> x.hourlyBill(0), x -> x.covered(0, 0), x -> bit(x.isOverBudget(0)), x -> bit(x.pays(0)),
            CloudMarket::fewestHosts, x -> x.cheapestEviction(0, 0), x -> x.migrationCost(0), x -> x.drainTo(1, 0)};
        for (int k = 0; k < others.length; k++) {
            changesNothing("question " + k, "busy", others[k]);
        }
    }
}
