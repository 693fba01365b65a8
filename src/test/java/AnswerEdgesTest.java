import java.util.Random;

/** The boundary cases of promises 5 to 29, sentence by sentence; wrong numbers are in RefusedTest. */
public final class AnswerEdgesTest {
    private static final Kit KIT = new Kit("AnswerEdgesTest");

    public static void main(String[] args) {
        counts();
        free();
        instancesOn();
        utilisation();
        spotPrice();
        bestHost();
        room();
        firstAndLastInstance();
        notices();
        waiting();
        waitingBid();
        bills();
        covered();
        pays();
        fewestHosts();
        fewestHostsIsExact();
        fewestHostsOfAllTypes();
        fewestHostsOfAllNumbers();
        fewestHostsOfManyClouds();
        cheapestEviction();
        cheapestEvictionOrder();
        cheapestEvictionChoice();
        migrationCost();
        drainTo();
        drainToFirst();
        drainToTriesAgain();
        KIT.end();
    }

    private static void launches(CloudMarket x, int type, int from, int many) {
        for (int k = from; k < from + many; k++) {
            KIT.due("launch", x.launch(0, type), k);
        }
    }

    private static void counts() {
        KIT.says(5, "Returns the number of hosts.");
        KIT.due("none", new CloudMarket().hostCount(), 0);
        for (int k = 0; k <= 8; k++) {
            KIT.due("hosts", KIT.market("host 1 1;".repeat(k)).hostCount(), k);
        }
        KIT.says(6, "Returns the clock.");
        CloudMarket x = new CloudMarket();
        KIT.due("at first", x.clock(), 0);
        KIT.due("pass", x.pass(1), 0);
        KIT.due("after an hour", x.clock(), 1);
    }

    private static void free() {
        KIT.says(7, "Returns the free cpu or memory of a host.");
        CloudMarket x = KIT.market("host 64 256;host 1 1;type 64 256 1;type 1 1 1;tenant 9;");
        KIT.says(7, "- `memory`: true for memory, false for cpu");
        KIT.due("all memory", x.free(0, true), 256);
        KIT.due("all cpu", x.free(0, false), 64);
        KIT.due("launch", x.launch(0, 0), 0);
        KIT.due("launch", x.launch(0, 1), 1);
        for (int host = 0; host < 2; host++) {
            KIT.due("no memory", x.free(host, true), 0);
            KIT.due("no cpu", x.free(host, false), 0);
        }
        KIT.due("undo", x.undo(), 1);
        KIT.due("cpu again", x.free(1, false), 1);
        KIT.due("memory again", x.free(1, true), 1);
    }

    private static void instancesOn() {
        KIT.says(8, "Returns the instances on a host.");
        CloudMarket x = KIT.market("host 11 11;host 64 64;type 1 1 1;tenant 9;slope 0;");
        KIT.says(8, "Returns the bit set (bit k for instance k).");
        KIT.due("none", x.instancesOn(0), 0);
        launches(x, 0, 0, 12);
        KIT.due("the first eleven", x.instancesOn(0), 2047);
        KIT.due("the twelfth", x.instancesOn(1), 2048);
        KIT.due("migrate", x.migrate(0, 1), 1);
        KIT.due("all but the first", x.instancesOn(0), 2046);
        KIT.due("first and last", x.instancesOn(1), 2049);
        CloudMarket y = KIT.market("host 64 64;type 1 1 1;tenant 9;");
        launches(y, 0, 0, 12);
        KIT.due("all", y.instancesOn(0), 4095);
    }

    private static void utilisation() {
        KIT.says(9, "Returns the part of the cpu of all hosts that is in load: the cpu in load divided by the cpu of all "
            + "hosts, both converted to double; 0.0 without hosts.");
        KIT.dueDouble("no hosts", new CloudMarket().utilisation(), 0.0);
        CloudMarket x = KIT.market("host 1 9;host 2 9;type 1 9 1;tenant 9;");
        KIT.dueDouble("none", x.utilisation(), 0.0);
        KIT.due("launch", x.launch(0, 0), 0);
        KIT.dueDouble("a third", x.utilisation(), 1.0 / 3.0);
        KIT.due("launch", x.launch(0, 0), 1);
        KIT.dueDouble("two thirds", x.utilisation(), 2.0 / 3.0);
        CloudMarket z = KIT.market("host 1 9;type 1 1 1;tenant 9;");
        KIT.dueDouble("0 of 1", z.utilisation(), 0.0);
        KIT.due("launch", z.launch(0, 0), 0);
        KIT.dueDouble("1 of 1", z.utilisation(), 1.0);
        CloudMarket y = KIT.market("host 64 256;".repeat(8) + "type 64 1 1;type 1 1 1;tenant 9;");
        KIT.due("launch", y.launch(0, 1), 0);
        KIT.dueDouble("1 of 512", y.utilisation(), 1.0 / 512.0);
        KIT.due("stop", y.stop(0), 0);
        launches(y, 0, 0, 8);
        KIT.dueDouble("512 of 512", y.utilisation(), 1.0);
        KIT.due("stop", y.stop(0), 0);
        KIT.dueDouble("448 of 512", y.utilisation(), 0.875);
    }

    private static void spotPrice() {
        KIT.says(10, "Returns the spot price of a type.");
        CloudMarket x = KIT.market("type 1 1 1;type 1 1 4;type 1 1 5;type 1 1 9999;");
        int[] prices = {0, 0, 1, 1999};
        for (int k = 0; k < prices.length; k++) {
            KIT.due("a fifth", x.spotPrice(k), prices[k]);
        }
    }

    private static void bestHost() {
        KIT.says(11, "Returns the best host for a type.");
        CloudMarket x = KIT.market("host 1 1;".repeat(7) + "host 2 2;type 2 1 1;type 1 1 1;type 1 3 1;tenant 9;");
        KIT.due("the last", x.bestHost(0), 7);
        KIT.due("the first", x.bestHost(1), 0);
        KIT.says(11, "Returns the host; NONE if the type fits no host.");
        KIT.due("none", x.bestHost(2), -1);
        KIT.due("launch", x.launch(0, 0), 0);
        KIT.due("none any more", x.bestHost(0), -1);
        KIT.due("no hosts", KIT.market("type 1 1 1;").bestHost(0), -1);
    }

    private static void room() {
        KIT.says(12, "Returns how many more instances of a type could run, one after the other each on the best host then, "
            + "regardless of the limit of 12 instances.");
        KIT.due("no hosts", KIT.market("type 1 1 1;").room(0), 0);
        KIT.due("most", KIT.market("host 64 256;".repeat(8) + "type 1 1 1;").room(0), 512);
        CloudMarket x = KIT.market("host 13 13;type 1 1 1;type 13 13 1;type 14 1 1;type 1 14 1;tenant 9;");
        KIT.due("thirteen", x.room(0), 13);
        KIT.due("just one", x.room(1), 1);
        KIT.due("too much cpu", x.room(2), 0);
        KIT.due("too much memory", x.room(3), 0);
        launches(x, 0, 0, 12);
        KIT.due("one more than twelve", x.room(0), 1);
        KIT.due("none of the large", x.room(1), 0);
        // Of 10 and 7, by cpu 3 and 2, by memory 2 and 3.
        KIT.due("each host by itself", KIT.market("host 10 7;host 7 10;type 3 3 1;").room(0), 4);
        KIT.due("rests are not added", KIT.market("host 3 3;host 3 3;type 2 2 1;").room(0), 2);
        CloudMarket y = KIT.market("host 2 2;type 1 1 1;tenant 9;");
        launches(y, 0, 0, 2);
        KIT.due("full", y.room(0), 0);
        KIT.due("undo", y.undo(), 1);
        KIT.due("one", y.room(0), 1);
    }

    private static void firstAndLastInstance() {
        KIT.says(13, "Returns the running instances as a bit set.");
        CloudMarket x = KIT.market("host 1 1;host 64 64;type 1 1 1;type 2 2 2;tenant 9;tenant 9;slope 0;");
        KIT.due("none", x.running(), 0);
        launches(x, 0, 0, 11);
        KIT.due("bid", x.bid(1, 1, 9999), 1);
        KIT.due("pass", x.pass(1), 0);
        KIT.due("all", x.running(), 4095);
        KIT.says(14, "Returns the type of an instance.");
        KIT.due("first", x.typeOf(0), 0);
        KIT.due("last", x.typeOf(11), 1);
        KIT.says(15, "Returns the tenant of an instance.");
        KIT.due("first", x.tenantOf(0), 0);
        KIT.due("last", x.tenantOf(11), 1);
        KIT.says(16, "Returns the host of an instance.");
        KIT.due("first", x.hostOf(0), 0);
        KIT.due("last", x.hostOf(11), 1);
        KIT.says(17, "Returns the bid of a spot instance.");
        KIT.due("last", x.bidOf(11), 9999);
        KIT.says(17, "Returns the bid; NONE if it is a regular instance.");
        KIT.due("first", x.bidOf(0), -1);
        KIT.due("stop", x.stop(0), 0);
        KIT.due("all but the first", x.running(), 4094);
        KIT.due("stop", x.stop(11), 1);
        KIT.due("all but first and last", x.running(), 2046);
    }

    private static void notices() {
        KIT.says(18, "Returns the hour for which an instance has a notice.");
        CloudMarket x = KIT.market("host 9 9;type 1 1 100;tenant 9999;notice 48;slope 0;");
        KIT.due("bid", x.bid(0, 0, 99), 1);
        KIT.due("pass", x.pass(499), 0);
        for (int k = 0; k < 19; k++) {
            KIT.due("pass", x.pass(500), 0);
        }
        KIT.says(18, "Returns the hour; NONE if it has none.");
        KIT.due("none", x.noticeOf(0), -1);
        KIT.due("evict", x.evict(0), 10047);
        KIT.due("behind the end of the clock", x.noticeOf(0), 10047);
        CloudMarket y = KIT.market("host 9 9;type 1 1 100;tenant 9;notice 0;");
        KIT.due("bid", y.bid(0, 0, 99), 1);
        KIT.due("launch", y.launch(0, 0), 0);
        KIT.due("a regular one", y.noticeOf(0), -1);
        KIT.due("pass", y.pass(1), 0);
        KIT.due("a new spot instance", y.noticeOf(1), -1);
        KIT.due("evict", y.evict(1), 1);
        KIT.due("for the clock itself", y.noticeOf(1), 1);
    }

    private static void waiting() {
        KIT.says(19, "Returns the number of waiting requests.");
        CloudMarket x = KIT.market("type 1 1 100;tenant 9;");
        for (int k = 0; k < 10; k++) {
            KIT.due("waiting", x.waiting(), k);
            KIT.due("bid", x.bid(0, 0, 50), k + 1);
        }
        KIT.due("ten", x.waiting(), 10);
        KIT.due("withdraw", x.withdraw(0), 10);
        KIT.due("none", x.waiting(), 0);
    }

    private static void waitingBid() {
        KIT.says(20, "Returns the bid of a waiting request.");
        CloudMarket x = KIT.market("type 1 1 100;tenant 9;tenant 9;");
        KIT.due("none", x.waitingBid(0), -1);
        int[] bids = {5, 9999, 1, 7, 7, 6, 9998, 2, 1, 8};
        int[] sorted = {9999, 9998, 8, 7, 7, 6, 5, 2, 1, 1};
        for (int k = 0; k < bids.length; k++) {
            KIT.due("bid", x.bid(k % 2, 0, bids[k]), k + 1);
        }
        KIT.says(20, "- `position`: position in the order of step 5, from 0");
        for (int k = 0; k < sorted.length; k++) {
            KIT.due("position " + k, x.waitingBid(k), sorted[k]);
        }
        KIT.says(20, "Returns the bid; NONE if there is no such position.");
        int[] wrong = {-1, 10, 11, 32, -32, Integer.MAX_VALUE, Integer.MIN_VALUE};
        for (int k : wrong) {
            KIT.due("position " + k, x.waitingBid(k), -1);
        }
        KIT.due("withdraw", x.withdraw(1), 5);
        KIT.due("the last", x.waitingBid(4), 1);
        KIT.due("behind the last", x.waitingBid(5), -1);
    }

    private static void bills() {
        KIT.says(21, "Returns what a tenant has spent.");
        CloudMarket x = KIT.market("host 64 64;type 1 1 9999;tenant 9999;tenant 0;" + "reserve 0 0 9 0 9999 0;".repeat(7));
        KIT.due("nothing", x.spent(0), 0);
        KIT.due("nothing", x.spent(1), 0);
        launches(x, 0, 0, 12);
        KIT.says(22, "Returns what a tenant would pay for the hour that begins now.");
        KIT.due("bill", x.hourlyBill(0), 63 * 9999);
        KIT.due("nothing", x.hourlyBill(1), 0);
        KIT.due("not spent by asking", x.spent(0), 0);
        KIT.due("pass", x.pass(1), 0);
        KIT.due("spent", x.spent(0), 63 * 9999);
        KIT.due("nothing", x.spent(1), 0);
        KIT.due("pass", x.pass(499), 0);
        for (int k = 0; k < 19; k++) {
            KIT.due("pass", x.pass(k == 18 ? 499 : 500), 0);
        }
        KIT.due("the dearest life", x.spent(0), 9999L * 63 * 9999);
        KIT.says(24, "Returns whether a tenant is over budget.");
        KIT.due("over", x.isOverBudget(0), true);
        KIT.due("not over", x.isOverBudget(1), false);
        KIT.says(22, "Returns what a tenant would pay for the hour that begins now.");
        KIT.due("at the end of the clock", x.hourlyBill(0), 12 * 9999);
    }

    private static void covered() {
        KIT.says(23, "Returns how many regular instances of a tenant and a type are covered by reservations that are "
            + "active now.");
        CloudMarket x = KIT.market("host 64 64;type 1 1 1;type 1 1 1;tenant 9;tenant 9;reserve 0 0 2 0 1 0;"
            + "reserve 0 0 3 1 2 0;slope 0;");
        for (int n = 0; n <= 5; n++) {
            KIT.due("with " + n, x.covered(0, 0), Math.min(n, 2));
            KIT.due("launch", x.launch(0, 0), n);
        }
        KIT.due("launch", x.launch(0, 1), 6);
        KIT.due("launch", x.launch(1, 0), 7);
        KIT.due("another type", x.covered(0, 1), 0);
        KIT.due("another tenant", x.covered(1, 0), 0);
        KIT.due("pass", x.pass(1), 0);
        KIT.due("the other reservation", x.covered(0, 0), 3);
        KIT.due("pass", x.pass(1), 0);
        KIT.due("none", x.covered(0, 0), 0);
        CloudMarket y = KIT.market("host 64 64;type 1 1 1;tenant 9;" + "reserve 0 0 9 0 1 0;reserve 0 0 2 0 1 0;");
        launches(y, 0, 0, 12);
        KIT.due("eleven of twelve", y.covered(0, 0), 11);
        KIT.due("bid", y.bid(0, 0, 9), 1);
        KIT.due("stop", y.stop(0), 0);
        KIT.due("stop", y.stop(1), 0);
        KIT.due("ten of ten", y.covered(0, 0), 10);
    }

    private static void pays() {
        KIT.says(25, "Returns whether a reservation saves money as things are now: whether it is active and its hourly "
            + "payment is less than the price of as many of the tenant's regular instances of its type as it can cover, "
            + "that is, the smaller one of many and their number, times the price.");
        // 3 for 66 or 67 percent: 198 or 201 for two of 100, 200 would be equal; then one that ends, one that comes.
        CloudMarket x = KIT.market("host 9 9;type 1 1 100;type 1 1 100;tenant 9;tenant 9;reserve 0 0 3 0 2 34;"
            + "reserve 0 0 3 0 2 33;reserve 0 0 4 0 2 50;reserve 0 0 1 1 2 1;reserve 0 0 1 0 1 1;reserve 0 0 1 0 2 0;"
            + "reserve 0 0 9 0 2 100;slope 0;");
        KIT.due("free of charge, but nothing to cover", x.pays(6), false);
        KIT.due("launch", x.launch(1, 0), 0);
        KIT.due("launch", x.launch(0, 1), 1);
        KIT.due("only the tenant's of the type", x.pays(6), false);
        KIT.due("launch", x.launch(0, 0), 2);
        KIT.due("free of charge", x.pays(6), true);
        KIT.due("198 for 100", x.pays(0), false);
        KIT.due("100 for 100", x.pays(5), false);
        KIT.due("launch", x.launch(0, 0), 3);
        KIT.due("198 for 200", x.pays(0), true);
        KIT.due("201 for 200", x.pays(1), false);
        KIT.due("200 for 200", x.pays(2), false);
        KIT.due("not yet active", x.pays(3), false);
        KIT.due("active", x.pays(4), true);
        KIT.due("100 for 100 of two", x.pays(5), false);
        KIT.due("bid", x.bid(0, 0, 99), 1);
        KIT.due("pass", x.pass(1), 0);
        KIT.due("active", x.pays(3), true);
        KIT.due("active no more", x.pays(4), false);
        KIT.due("a spot instance does not count: 200 for 200", x.pays(2), false);
        KIT.due("launch", x.launch(0, 0), 5);
        KIT.due("200 for 300", x.pays(2), true);
    }

    private static void fewestHosts() {
        KIT.says(26, "Returns the fewest hosts on which all running instances could run if they were placed anew.");
        KIT.due("no hosts", new CloudMarket().fewestHosts(), 0);
        CloudMarket x = KIT.market("host 64 256;".repeat(8) + "type 64 1 1;type 1 1 1;type 1 256 1;tenant 9;");
        KIT.due("no instances", x.fewestHosts(), 0);
        for (int k = 0; k < 8; k++) {
            KIT.due("launch", x.launch(0, k % 2 == 0 ? 0 : 2), k);
            KIT.due("a host for each", x.fewestHosts(), k + 1);
        }
        KIT.state("no ninth", () -> x.launch(0, 0));
        CloudMarket y = KIT.market("host 1 1;".repeat(7) + "host 12 12;type 1 1 1;tenant 9;");
        launches(y, 0, 0, 12);
        KIT.due("on eight, the last is enough", y.fewestHosts(), 1);
        CloudMarket z = KIT.market("host 1 1;".repeat(7) + "host 11 12;type 1 1 1;tenant 9;");
        launches(z, 0, 0, 11);
        KIT.due("just enough", z.fewestHosts(), 1);
        launches(z, 0, 11, 1);
        KIT.due("one too many", z.fewestHosts(), 2);
        CloudMarket w = KIT.market("host 1 1;".repeat(7) + "host 12 11;type 1 1 1;tenant 9;");
        launches(w, 0, 0, 12);
        KIT.due("one too many by memory", w.fewestHosts(), 2);
    }

    private static void fewestHostsIsExact() {
        // Two hosts of 10 hold 5 3 2 and 4 4 2 with nothing left; the largest first on the first host would need three.
        CloudMarket x = KIT.market("host 10 64;host 10 64;host 10 64;type 5 1 1;type 4 1 1;type 3 1 1;type 2 1 1;"
            + "tenant 9;");
        int[] types = {0, 1, 1, 2, 3, 3};
        for (int k = 0; k < types.length; k++) {
            KIT.due("launch", x.launch(0, types[k]), k);
        }
        KIT.due("nothing left", x.fewestHosts(), 2);
        // One instance needs the small host, so that the large one, which has room for all others, is not enough.
        CloudMarket y = KIT.market("host 9 20;host 20 2;type 4 5 1;type 10 1 1;tenant 9;");
        KIT.due("launch", y.launch(0, 1), 0);
        KIT.due("launch", y.launch(0, 0), 1);
        KIT.due("launch", y.launch(0, 0), 2);
        KIT.due("each fits one host only", y.fewestHosts(), 2);
        KIT.due("stop", y.stop(0), 1);
        KIT.due("one", y.fewestHosts(), 1);
        // Small hosts in front: three of 4 are on four hosts, but two of 6 and 4 hold them.
        CloudMarket z = KIT.market("host 2 9;host 2 9;host 4 9;host 6 9;type 2 1 1;tenant 9;");
        launches(z, 0, 0, 5);
        KIT.due("10 on 6 and 4", z.fewestHosts(), 2);
        launches(z, 0, 5, 1);
        KIT.due("12 on 6, 4 and 2", z.fewestHosts(), 3);
        launches(z, 0, 6, 1);
        KIT.due("14 on all", z.fewestHosts(), 4);
        // Regular and spot instances count alike.
        CloudMarket w = KIT.market("host 2 2;host 2 2;type 1 1 100;tenant 9;");
        KIT.due("bid", w.bid(0, 0, 99), 1);
        KIT.due("bid", w.bid(0, 0, 99), 2);
        KIT.due("pass", w.pass(1), 0);
        KIT.due("one", w.fewestHosts(), 1);
        launches(w, 0, 2, 1);
        KIT.due("two", w.fewestHosts(), 2);
    }

    private static void fewestHostsOfAllTypes() {
        // Two of each of six types, 42 of cpu and of memory in all. They are launched in pairs of 7 and 7; the first pair
        // goes to the two small hosts, though the others could hold all, just so.
        String types = "type 1 6 1;type 2 5 1;type 3 4 1;type 4 3 1;type 5 2 1;type 6 1 1;tenant 9;";
        int[] order = {0, 5, 0, 5, 1, 4, 1, 4, 2, 3, 2, 3};
        String[] hosts = {"host 42 42;", "host 41 42;host 1 6;", "host 42 41;host 6 1;", "host 21 21;host 21 21;",
            "host 14 14;host 14 14;host 14 14;"};
        int[] fewest = {1, 2, 2, 2, 3};
        for (int k = 0; k < hosts.length; k++) {
            CloudMarket x = KIT.market("host 1 6;host 6 1;" + hosts[k] + types);
            for (int n = 0; n < 12; n++) {
                KIT.due("launch", x.launch(0, order[n]), n);
            }
            KIT.due("a small host", x.hostOf(0), 0);
            KIT.due("a small host", x.hostOf(1), 1);
            KIT.due("fewest on " + hosts[k], x.fewestHosts(), fewest[k]);
        }
        // The first host alone takes all; the instances are on the others as well.
        CloudMarket z = KIT.market("host 42 42;host 1 6;host 2 5;host 3 4;host 4 3;host 5 2;host 6 1;" + types);
        for (int n = 0; n < 12; n++) {
            KIT.due("launch", z.launch(0, n % 6), n);
        }
        KIT.due("they are on all", z.hostOf(0) == 1 && z.hostOf(5) == 6 && z.hostOf(6) == 0, true);
        KIT.due("the first is enough", z.fewestHosts(), 1);
    }

    /** All numbers of instances of four types, up to seven in all, against a trial of all places. */
    private static void fewestHostsOfAllNumbers() {
        int[][] hosts = {{10, 9}, {7, 12}, {12, 6}};
        int[][] types = {{5, 2}, {3, 4}, {2, 1}, {4, 3}};
        for (int code = 0; code < 8 * 8 * 8 * 8; code++) {
            int[] many = {code & 7, code >> 3 & 7, code >> 6 & 7, code >> 9};
            if (many[0] + many[1] + many[2] + many[3] <= 7) {
                CloudMarket x = new CloudMarket();
                Kit.parse(x, "host 10 9;host 7 12;host 12 6;type 5 2 1;type 3 4 1;type 2 1 1;type 4 3 1;tenant 99;");
                int[] running = new int[7];
                int count = 0;
                for (int n = 0; n < 28; n++) {
                    if (n / 4 < many[n % 4] && x.bestHost(n % 4) >= 0) {
                        x.launch(0, n % 4);
                        running[count++] = n % 4;
                    }
                }
                int[][] left = {hosts[0].clone(), hosts[1].clone(), hosts[2].clone()};
                KIT.due("fewest of numbers " + code, x.fewestHosts(), tried(types, running, count, left, 0));
            }
        }
    }

    /** The fewest hosts in use when the first so many instances are put in all ways on what is left of the hosts. */
    private static int tried(int[][] types, int[] running, int count, int[][] left, int used) {
        if (count == 0) {
            return Integer.bitCount(used);
        }
        int[] need = types[running[count - 1]];
        int best = 99;
        for (int host = 0; host < left.length; host++) {
            if (need[0] <= left[host][0] && need[1] <= left[host][1]) {
                left[host][0] -= need[0];
                left[host][1] -= need[1];
                best = Math.min(best, tried(types, running, count - 1, left, used | 1 << host));
                left[host][0] += need[0];
                left[host][1] += need[1];
            }
        }
        return best;
    }

    /** Clouds whose instances leave little room, against the fewest hosts for every set of instances. */
    private static void fewestHostsOfManyClouds() {
        Random random = new Random(26);
        for (int cloud = 0; cloud < 1500; cloud++) {
            int[][] hosts = sizes(random, 3 + random.nextInt(6), 12);
            int[][] types = sizes(random, 1 + random.nextInt(6), 6);
            StringBuilder text = new StringBuilder("tenant 99;");
            for (int[] host : hosts) {
                text.append("host ").append(host[0]).append(' ').append(host[1]).append(';');
            }
            for (int[] type : types) {
                text.append("type ").append(type[0]).append(' ').append(type[1]).append(" 1;");
            }
            CloudMarket x = new CloudMarket();
            KIT.due("parse", Kit.parse(x, text.toString()), 0);
            int[][] running = new int[9][];
            int count = 0;
            for (int n = 0; n < 40 && count < running.length; n++) {
                int type = random.nextInt(types.length);
                if (x.bestHost(type) >= 0) {
                    x.launch(0, type);
                    running[count++] = types[type];
                }
            }
            KIT.due("fewest of " + text, x.fewestHosts(), fewestOfSets(hosts, running, count));
        }
    }

    private static int[][] sizes(Random random, int many, int most) {
        int[][] sizes = new int[many][];
        for (int k = 0; k < many; k++) {
            sizes[k] = new int[] {1 + random.nextInt(most), 1 + random.nextInt(most)};
        }
        return sizes;
    }

    private static int fewestOfSets(int[][] hosts, int[][] running, int count) {
        int sets = 1 << count;
        int[] cpu = new int[sets];
        int[] memory = new int[sets];
        int[] fewest = new int[sets];
        for (int set = 1; set < sets; set++) {
            int last = Integer.numberOfTrailingZeros(set);
            cpu[set] = cpu[set & set - 1] + running[last][0];
            memory[set] = memory[set & set - 1] + running[last][1];
            fewest[set] = 99;
        }
        for (int[] host : hosts) {
            // From the largest set down, so that a host is used once.
            for (int set = sets - 1; set > 0; set--) {
                for (int part = set; part > 0; part = part - 1 & set) {
                    if (cpu[part] <= host[0] && memory[part] <= host[1]) {
                        fewest[set] = Math.min(fewest[set], fewest[set ^ part] + 1);
                    }
                }
            }
        }
        return fewest[sets - 1];
    }

    /** Runs spot instances with these types and bids, numbered in this order, on the first host. */
    private static void spots(CloudMarket x, int[] types, int[] bids) {
        for (int k = 0; k < types.length; k++) {
            KIT.due("bid", x.bid(0, types[k], bids[k]), 1);
            KIT.due("pass", x.pass(1), 0);
            KIT.due("bid of the instance", x.bidOf(k), bids[k]);
        }
    }

    private static void cheapestEviction() {
        KIT.says(27, "Returns the set, 0 if the type fits the host already; NONE if there is none.");
        CloudMarket x = KIT.market("host 4 8;host 9 9;type 1 2 100;type 4 8 100;type 5 1 100;type 1 9 100;type 3 6 100;"
            + "type 9 9 100;tenant 99;slope 0;");
        KIT.due("an empty host", x.cheapestEviction(0, 1), 0);
        KIT.due("never: cpu", x.cheapestEviction(0, 2), -1);
        KIT.due("never: memory", x.cheapestEviction(0, 3), -1);
        spots(x, new int[] {0, 0}, new int[] {30, 20});
        KIT.due("there is room", x.cheapestEviction(0, 0), 0);
        KIT.due("all", x.cheapestEviction(0, 1), 3);
        KIT.due("the cheaper one", x.cheapestEviction(0, 4), 2);
        KIT.due("on the other host there is room", x.cheapestEviction(1, 5), 0);
        KIT.due("launch", x.launch(0, 0), 2);
        KIT.due("a regular one stays", x.cheapestEviction(0, 1), -1);
        KIT.due("both spots", x.cheapestEviction(0, 4), 3);
        KIT.due("launch", x.launch(0, 0), 3);
        KIT.due("not even with both", x.cheapestEviction(0, 4), -1);
        KIT.due("just as much as one", x.cheapestEviction(0, 0), 2);
        KIT.due("evict", x.evict(0) > 0, true);
        KIT.due("a notice changes nothing", x.cheapestEviction(0, 0), 2);
        KIT.due("stop", x.stop(0), 0);
        KIT.due("stop", x.stop(1), 0);
        KIT.due("regular ones alone", x.cheapestEviction(0, 4), -1);
    }

    private static void cheapestEvictionOrder() {
        KIT.says(27, "Returns the cheapest set of spot instances on a host without which an instance of a type would fit "
            + "the host: the one with the smallest sum of bids; of several the one with the fewest instances; of several "
            + "the one with the lowest bit set.");
        String text = "host 4 64;type 1 1 1;type 2 1 1;tenant 99;slope 0;";
        // One of cpu 2 or two of cpu 1.
        CloudMarket x = KIT.market(text);
        spots(x, new int[] {0, 0, 1}, new int[] {10, 10, 19});
        KIT.due("19 is less than 10 + 10", x.cheapestEviction(0, 1), 4);
        CloudMarket y = KIT.market(text);
        spots(y, new int[] {0, 0, 1}, new int[] {10, 10, 20});
        KIT.due("20 alone before 10 + 10", y.cheapestEviction(0, 1), 4);
        CloudMarket z = KIT.market(text);
        spots(z, new int[] {0, 0, 1}, new int[] {10, 10, 21});
        KIT.due("10 + 10 is less than 21", z.cheapestEviction(0, 1), 3);
        CloudMarket w = KIT.market(text);
        spots(w, new int[] {0, 0, 0, 0}, new int[] {10, 10, 10, 10});
        KIT.due("the lowest of four", w.cheapestEviction(0, 0), 1);
        KIT.due("the lowest two", w.cheapestEviction(0, 1), 3);
        CloudMarket v = KIT.market(text);
        spots(v, new int[] {0, 0, 0, 0}, new int[] {12, 10, 11, 10});
        KIT.due("the lower of two", v.cheapestEviction(0, 0), 2);
        KIT.due("10 + 10", v.cheapestEviction(0, 1), 10);
    }

    private static void cheapestEvictionChoice() {
        // For 4 of cpu: 0 and 3 or 1 and 2, both for 40 with two instances; 0110 is lower than 1001.
        CloudMarket x = KIT.market("host 8 64;type 3 1 1;type 2 1 1;type 1 1 1;type 4 1 1;tenant 99;slope 0;");
        spots(x, new int[] {0, 1, 1, 2}, new int[] {30, 20, 20, 10});
        KIT.due("the lowest bit set", x.cheapestEviction(0, 3), 6);
        // One frees cpu, another memory; both are needed.
        CloudMarket y = KIT.market("host 10 10;type 8 1 1;type 1 8 1;type 8 8 1;type 1 1 1;tenant 99;slope 0;");
        spots(y, new int[] {0, 1, 3}, new int[] {50, 40, 1});
        KIT.due("cpu and memory", y.cheapestEviction(0, 2), 3);
        KIT.due("cpu", y.cheapestEviction(0, 0), 1);
        KIT.due("memory", y.cheapestEviction(0, 1), 2);
        KIT.due("the cheapest is enough", y.cheapestEviction(0, 3), 4);
        // The highest bids on all twelve.
        CloudMarket z = KIT.market("host 12 12;type 1 1 1;type 12 12 1;type 11 12 1;type 12 11 1;type 6 6 1;tenant 99;");
        for (int k = 0; k < 12; k++) {
            KIT.due("bid", z.bid(0, 0, 9999), 1);
            KIT.due("pass", z.pass(1), 0);
        }
        KIT.due("all twelve", z.cheapestEviction(0, 1), 4095);
        KIT.due("all twelve by memory", z.cheapestEviction(0, 2), 4095);
        KIT.due("all twelve by cpu", z.cheapestEviction(0, 3), 4095);
        KIT.due("the lowest six", z.cheapestEviction(0, 4), 63);
    }

    private static void migrationCost() {
        KIT.says(28, "Returns the cost of a migration of an instance.");
        CloudMarket x = KIT.market("host 64 64;type 1 1 1;type 1 2 1;tenant 9;move memory-1;");
        launches(x, 0, 0, 11);
        KIT.due("launch", x.launch(0, 1), 11);
        KIT.due("of the first", x.migrationCost(0), 0);
        KIT.due("of the last", x.migrationCost(11), 1);
        KIT.due("asking costs nothing", x.spent(0), 0);
    }

    private static void drainTo() {
        KIT.says(29, "Returns the host; NONE if the host cannot be drained.");
        CloudMarket x = KIT.market("host 2 2;type 1 1 1;tenant 9;");
        KIT.due("launch", x.launch(0, 0), 0);
        KIT.due("no other host", x.drainTo(0, 0), -1);
        CloudMarket y = KIT.market("host 5 5;host 2 9;host 9 2;type 1 1 1;tenant 9;");
        launches(y, 0, 0, 4);
        for (int k = 0; k < 4; k++) {
            KIT.due("just enough room", y.drainTo(0, k), k < 2 ? 1 : 2);
        }
        launches(y, 0, 4, 1);
        for (int k = 0; k < 5; k++) {
            KIT.due("room for four of five", y.drainTo(0, k), -1);
        }
        // Each by itself finds a host, but not both.
        CloudMarket z = KIT.market("host 4 4;host 2 4;type 2 2 1;tenant 9;");
        KIT.due("launch", z.launch(0, 0), 0);
        KIT.due("migrate", z.migrate(0, 0), 2);
        KIT.due("one", z.drainTo(0, 0), 1);
        KIT.due("launch", z.launch(0, 0), 1);
        KIT.due("on the first too", z.hostOf(1), 0);
        KIT.due("two by cpu", z.drainTo(0, 0), -1);
        KIT.due("two by cpu", z.drainTo(0, 1), -1);
        CloudMarket w = KIT.market("host 6 6;host 5 5;type 1 1 1;tenant 9;");
        launches(w, 0, 0, 5);
        KIT.due("all on the other", w.instancesOn(1), 31);
        for (int k = 0; k < 5; k++) {
            KIT.due("five to one", w.drainTo(1, k), 0);
        }
    }

    private static void drainToFirst() {
        KIT.says(29, "Returns where an instance of a host goes if the host is drained. To drain a host, all of its "
            + "instances are assigned to other hosts so that all fit; of several assignments the lexicographically first "
            + "sequence of hosts, for the instances by ascending number, is chosen.");
        // Not the best host but the lowest; the host itself is none.
        CloudMarket x = KIT.market("host 9 9;host 3 3;host 1 1;type 1 1 1;tenant 9;");
        KIT.due("launch", x.launch(0, 0), 0);
        KIT.due("on the last", x.hostOf(0), 2);
        KIT.due("to the lowest", x.drainTo(2, 0), 0);
        KIT.due("migrate", x.migrate(0, 0), 1);
        KIT.due("not to itself", x.drainTo(0, 0), 1);
        // The first takes host 1 only if the others still find a place; the small one first, then the large one.
        CloudMarket y = KIT.market("host 6 9;host 3 3;host 2 9;type 2 1 1;type 3 1 1;type 1 1 1;tenant 9;");
        KIT.due("launch", y.launch(0, 0), 0);
        KIT.due("migrate", y.hostOf(0) == 0 ? 1 : y.migrate(0, 0), 1);
        KIT.due("launch", y.launch(0, 1), 1);
        KIT.due("migrate", y.hostOf(1) == 0 ? 1 : y.migrate(1, 0), 1);
        KIT.due("together", y.instancesOn(0), 3);
        KIT.due("host 1 is left to the larger one", y.drainTo(0, 0), 2);
        KIT.due("which goes there", y.drainTo(0, 1), 1);
        KIT.due("launch", y.launch(0, 2), 2);
        KIT.due("a third", y.migrate(2, 0), 1);
        KIT.due("no place for the third", y.drainTo(0, 2), -1);
        KIT.due("nor the others", y.drainTo(0, 0), -1);
        KIT.due("stop", y.stop(1), 0);
        KIT.due("the first", y.drainTo(0, 0), 1);
        KIT.due("the third beside it", y.drainTo(0, 2), 1);
    }

    /** The same by memory: a place that was tried and left is free again, of cpu and of memory. */
    private static void drainToTriesAgain() {
        String[] texts = {"host 9 5;host 9 3;host 9 2;type 1 2 1;type 1 3 1;tenant 9;",
            "host 5 9;host 3 9;host 2 9;type 2 1 1;type 3 1 1;tenant 9;"};
        for (String text : texts) {
            CloudMarket x = KIT.market(text);
            for (int k = 0; k < 2; k++) {
                KIT.due("launch", x.launch(0, k), k);
                KIT.due("on host 0", x.hostOf(k) == 0 || x.migrate(k, 0) > 0, true);
            }
            KIT.due("together", x.instancesOn(0), 3);
            KIT.due("not to host 1, which the other needs", x.drainTo(0, 0), 2);
            KIT.due("to host 1, the whole of it", x.drainTo(0, 1), 1);
            KIT.due("drain", x.drain(0), 2);
            KIT.due("there", x.instancesOn(1), 2);
            KIT.due("there", x.instancesOn(2), 1);
        }
    }
}
