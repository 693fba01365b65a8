/** Promises 26 to 29: fewestHosts, cheapestEviction, migrationCost, drainTo. */
public final class PackingTest {
    private static final Kit KIT = new Kit("PackingTest");

    public static void main(String[] args) {
        fewestHosts();
        fewestHostsNeedsASearch();
        fewestHostsOfManyTypes();
        cheapestEviction();
        cheapestEvictionTies();
        cheapestEvictionLowestSet();
        cheapestEvictionOfTwelve();
        migrationCost();
        sums();
        overflow();
        drainTo();
        drainToFirstOfSeveral();
        drainToByMemory();
        drainToLimits();
        KIT.end();
    }

    private static void fewestHosts() {
        CloudMarket x = KIT.market("host 2 2;host 4 4;host 8 8;type 2 2 1;tenant 99;");
        KIT.due("none", x.fewestHosts(), 0);
        KIT.due("launch", x.launch(0, 0), 0);
        KIT.due("one", x.fewestHosts(), 1);
        for (int k = 1; k < 4; k++) {
            KIT.due("launch", x.launch(0, 0), k);
        }
        KIT.due("on three now, one is enough", x.fewestHosts(), 1);
        KIT.due("launch", x.launch(0, 0), 4);
        KIT.due("two", x.fewestHosts(), 2);
        KIT.due("launch", x.launch(0, 0), 5);
        KIT.due("two", x.fewestHosts(), 2);
        KIT.due("launch", x.launch(0, 0), 6);
        KIT.due("three", x.fewestHosts(), 3);
        KIT.due("stop", x.stop(0), 0);
        KIT.due("two again", x.fewestHosts(), 2);
    }

    private static void fewestHostsNeedsASearch() {
        // 4 + 3 + 3 and 6 + 2 + 2 fill two hosts of 10; by the largest first, 6 + 4 would leave 3 + 3 + 2 and 2.
        CloudMarket x = KIT.market("host 10 20;host 10 20;host 10 20;type 6 1 1;type 4 1 1;type 3 1 1;type 2 1 1;"
            + "tenant 99;");
        int[] types = {0, 1, 2, 2, 3, 3};
        for (int k = 0; k < types.length; k++) {
            KIT.due("launch", x.launch(0, types[k]), k);
        }
        KIT.due("two are full", x.fewestHosts(), 2);
        KIT.due("launch", x.launch(0, 3), 6);
        KIT.due("three", x.fewestHosts(), 3);
        // Cpu and memory each would do with two hosts, but not both.
        CloudMarket y = KIT.market("host 6 6;host 6 6;host 6 6;host 6 6;type 4 1 1;type 1 4 1;type 3 3 1;tenant 99;");
        KIT.due("launch", y.launch(0, 0), 0);
        KIT.due("launch", y.launch(0, 1), 1);
        KIT.due("one of each", y.fewestHosts(), 1);
        KIT.due("launch", y.launch(0, 2), 2);
        KIT.due("another", y.fewestHosts(), 2);
        KIT.due("launch", y.launch(0, 2), 3);
        KIT.due("two full", y.fewestHosts(), 2);
        KIT.due("launch", y.launch(0, 0), 4);
        KIT.due("a third", y.fewestHosts(), 3);
    }

    private static void fewestHostsOfManyTypes() {
        StringBuilder text = new StringBuilder("tenant 99;");
        for (int k = 1; k <= 6; k++) {
            text.append("type ").append(k).append(' ').append(7 - k).append(" 1;");
        }
        text.append("host 6 20;host 20 6;host 7 7;host 7 7;host 9 9;host 14 14;host 12 13;host 12 13;");
        CloudMarket x = KIT.market(text.toString());
        for (int k = 0; k < 12; k++) {
            KIT.due("launch", x.launch(0, k % 6), k);
        }
        // 42 of cpu and of memory: 14 + 14 + 12 and less are not enough for three hosts.
        KIT.due("fewest", x.fewestHosts(), 4);
    }

    private static void cheapestEviction() {
        CloudMarket x = KIT.market("host 8 8;host 2 9;type 2 2 1;type 4 1 1;type 1 5 1;type 9 1 1;type 8 8 1;"
            + "tenant 99;");
        KIT.due("fits", x.cheapestEviction(0, 4), 0);
        KIT.due("larger than the host", x.cheapestEviction(0, 3), -1);
        KIT.due("larger than the host", x.cheapestEviction(1, 1), -1);
        KIT.due("bid", x.bid(0, 0, 30), 1);
        KIT.due("bid", x.bid(0, 0, 10), 2);
        KIT.due("bid", x.bid(0, 0, 20), 3);
        KIT.due("bid", x.bid(0, 0, 40), 4);
        KIT.due("pass", x.pass(1), 0);
        KIT.due("bid", x.bidOf(0), 40);
        KIT.due("the first goes to the smaller host", x.hostOf(0), 1);
        KIT.due("others", x.instancesOn(0), 0b1110);
        KIT.due("fits", x.cheapestEviction(0, 0), 0);
        KIT.due("cpu for one", x.cheapestEviction(0, 1), 0b1000);
        // 5 of memory with 2 free: two of them, the two cheapest.
        KIT.due("memory for two", x.cheapestEviction(0, 2), 0b1100);
        KIT.due("all", x.cheapestEviction(0, 4), 0b1110);
        KIT.due("the other host", x.cheapestEviction(1, 0), 0b0001);
        KIT.due("launch", x.launch(0, 0), 4);
        KIT.due("a regular one stays", x.cheapestEviction(0, 4), -1);
        KIT.due("around the regular one", x.cheapestEviction(0, 2), 0b1110);
        KIT.due("two", x.cheapestEviction(0, 1), 0b1100);
        KIT.index("host", () -> x.cheapestEviction(2, 0));
        KIT.index("host", () -> x.cheapestEviction(-1, 0));
        KIT.index("type", () -> x.cheapestEviction(0, 5));
        KIT.index("type", () -> x.cheapestEviction(0, -1));
    }

    private static void cheapestEvictionTies() {
        // Instances 0 to 3 with bids 30, 20, 10, 10 and cpu 2, 1, 1, 1 on a host of 5.
        CloudMarket x = KIT.market("host 5 64;type 2 1 1;type 1 1 1;type 3 1 1;type 4 1 1;tenant 99;");
        KIT.due("bid", x.bid(0, 0, 30), 1);
        KIT.due("bid", x.bid(0, 1, 20), 2);
        KIT.due("bid", x.bid(0, 1, 10), 3);
        KIT.due("bid", x.bid(0, 1, 10), 4);
        KIT.due("pass", x.pass(1), 0);
        KIT.due("on", x.instancesOn(0), 15);
        KIT.due("one of 10 or 10: the lowest set", x.cheapestEviction(0, 1), 0b0100);
        KIT.due("10 + 10", x.cheapestEviction(0, 0), 0b1100);
        // Three: 30 + 10 with two instances, or 20 + 10 + 10 with three.
        KIT.due("the fewest, then the lowest", x.cheapestEviction(0, 2), 0b0101);
        KIT.due("four", x.cheapestEviction(0, 3), 0b1101);
        // The smallest sum comes first, even with more instances.
        CloudMarket y = KIT.market("host 5 64;type 2 1 1;type 1 1 1;tenant 99;");
        KIT.due("bid", y.bid(0, 0, 21), 1);
        KIT.due("bid", y.bid(0, 1, 10), 2);
        KIT.due("bid", y.bid(0, 1, 10), 3);
        KIT.due("bid", y.bid(0, 1, 50), 4);
        KIT.due("pass", y.pass(1), 0);
        KIT.due("two for 20", y.cheapestEviction(0, 0), 0b1100);
        CloudMarket z = KIT.market("host 4 64;type 2 1 1;type 1 1 1;tenant 99;");
        KIT.due("bid", z.bid(0, 1, 10), 1);
        KIT.due("bid", z.bid(0, 1, 10), 2);
        KIT.due("pass", z.pass(1), 0);
        KIT.due("bid", z.bid(0, 0, 20), 1);
        KIT.due("pass", z.pass(1), 0);
        KIT.due("one for 20 before two for 20", z.cheapestEviction(0, 0), 0b100);
        // Sets with the same sum and size, the lower of which does not hold the lowest instance.
        CloudMarket w = KIT.market("host 4 64;type 1 1 1;type 2 1 1;tenant 99;");
        int[] bids = {30, 20, 20, 10};
        for (int k = 0; k < bids.length; k++) {
            KIT.due("bid", w.bid(0, 0, bids[k]), k + 1);
        }
        KIT.due("pass", w.pass(1), 0);
        KIT.due("10 + 20", w.cheapestEviction(0, 1), 0b1010);
        KIT.due("stop", w.stop(3), 0);
        KIT.due("stop", w.stop(2), 0);
        KIT.due("stop", w.stop(1), 0);
        KIT.due("bid", w.bid(0, 0, 40), 1);
        KIT.due("bid", w.bid(0, 0, 20), 2);
        KIT.due("bid", w.bid(0, 0, 10), 3);
        KIT.due("pass", w.pass(1), 0);
        KIT.due("20 + 10 of 30, 40, 20, 10", w.cheapestEviction(0, 1), 0b1100);
    }

    private static void cheapestEvictionLowestSet() {
        // Bids 30, 20, 20, 10 with cpu 3, 2, 2, 1: for 4 of cpu there are 0 and 3, or 1 and 2, for 40 each.
        CloudMarket x = KIT.market("host 8 64;type 3 1 1;type 2 1 1;type 1 1 1;type 4 1 1;tenant 99;");
        KIT.due("bid", x.bid(0, 0, 30), 1);
        KIT.due("bid", x.bid(0, 1, 20), 2);
        KIT.due("bid", x.bid(0, 1, 20), 3);
        KIT.due("bid", x.bid(0, 2, 10), 4);
        KIT.due("pass", x.pass(1), 0);
        KIT.due("full", x.free(0, false), 0);
        KIT.due("the lowest bit set", x.cheapestEviction(0, 3), 0b0110);
        // Memory alone: 8 of it with memory 1, 7, 4 and 4 for bids 30, 20, 20 and 10.
        CloudMarket y = KIT.market("host 64 16;type 1 1 1;type 1 7 1;type 1 4 1;type 9 8 1;type 9 9 1;tenant 99;");
        KIT.due("bid", y.bid(0, 0, 30), 1);
        KIT.due("bid", y.bid(0, 1, 20), 2);
        KIT.due("bid", y.bid(0, 2, 20), 3);
        KIT.due("bid", y.bid(0, 2, 10), 4);
        KIT.due("pass", y.pass(1), 0);
        KIT.due("full", y.free(0, true), 0);
        KIT.due("4 and 4, or 7 and 4", y.cheapestEviction(0, 3), 0b1010);
        KIT.due("7 and 4", y.cheapestEviction(0, 4), 0b1010);
    }

    private static void cheapestEvictionOfTwelve() {
        CloudMarket x = KIT.market("host 12 12;type 1 1 1;type 6 6 1;type 12 12 1;tenant 99;");
        for (int k = 0; k < 10; k++) {
            KIT.due("bid", x.bid(0, 0, 100 - k), k + 1);
        }
        KIT.due("pass", x.pass(1), 0);
        KIT.due("bid", x.bid(0, 0, 1), 1);
        KIT.due("bid", x.bid(0, 0, 9999), 2);
        KIT.due("pass", x.pass(1), 0);
        KIT.due("all run", x.running(), 4095);
        KIT.due("bid", x.bidOf(10), 9999);
        KIT.due("six of twelve", x.cheapestEviction(0, 1), 0b101111100000);
        KIT.due("all twelve", x.cheapestEviction(0, 2), 4095);
        CloudMarket y = KIT.market("host 12 12;type 1 1 1;type 12 12 1;tenant 99;");
        for (int k = 0; k < 12; k++) {
            KIT.due("the highest bid", y.bid(0, 0, 9999), k % 10 + 1);
            KIT.due("pass", k == 9 || k == 11 ? y.pass(1) : 0, 0);
        }
        KIT.due("the dearest set of all", y.cheapestEviction(0, 1), 4095);
    }

    private static void migrationCost() {
        CloudMarket x = KIT.market("host 9 99;type 2 30 400;type 1 8 7;tenant 9999;");
        KIT.due("launch", x.launch(0, 0), 0);
        KIT.due("launch", x.launch(0, 1), 1);
        KIT.due("memory without the statement", x.migrationCost(0), 30);
        KIT.due("memory without the statement", x.migrationCost(1), 8);
        KIT.index("not running", () -> x.migrationCost(2));
        KIT.index("negative", () -> x.migrationCost(-1));
        KIT.index("beyond", () -> x.migrationCost(12));
        CloudMarket y = KIT.market("host 9 99;type 2 30 400;tenant 9999;move age*10+cpu;");
        KIT.due("pass", y.pass(7), 0);
        KIT.due("launch", y.launch(0, 0), 0);
        KIT.due("new", y.migrationCost(0), 2);
        KIT.due("pass", y.pass(3), 0);
        KIT.due("three hours", y.migrationCost(0), 32);
        KIT.due("bid", y.bid(0, 0, 9999), 1);
        KIT.due("pass", y.pass(2), 0);
        KIT.due("five hours", y.migrationCost(0), 52);
        KIT.due("a spot instance since step 5", y.migrationCost(1), 12);
    }

    private static void sums() {
        cost("memory", 30);
        cost("price", 400);
        cost("cpu", 2);
        cost("age", 6);
        cost("0", 0);
        cost("9999", 9999);
        cost("1+2*3", 7);
        cost("(1+2)*3", 9);
        cost("10-3-2", 5);
        cost("10-(3-2)", 9);
        cost("10-3+2", 9);
        cost("100/7/2", 7);
        cost("100/(7/2)", 33);
        cost("100/7*2", 28);
        cost("2*3+4*5-6/4", 25);
        cost("20-2*3*2-1", 7);
        cost("1-2", 0);
        cost("2-2", 0);
        cost("(1-8)/2+10", 7);
        cost("8/(1-3)+10", 6);
        cost("7/0", 0);
        cost("7/0+5", 5);
        cost("0/0+1", 1);
        cost("price/(memory-30)", 0);
        cost("5*(age-6)+cpu", 2);
        cost("(((((age)))))", 6);
        cost("(1+(2-(3*(4/(1+1)))))+9", 6);
        cost("1-(2-(3-(4-(5-(6*2)))))+1", 1 - (2 - (3 - (4 - (5 - 12)))) + 1);
        cost("1+1*(1+1*(1+1*(1+1*(1+1*(1+1*1)))))", 7);
        cost("1" + "+1".repeat(380), 381);
    }

    private static void overflow() {
        cost("9999*9999", 99980001);
        cost("9999*9999*50", 9999 * 9999 * 50);
        cost("0-9999*9999*50", 0);
        cost("9999*9999*30", 0);
        cost("0-9999*9999*30", -(9999 * 9999 * 30));
        // The least int, divided by -1, is itself.
        cost("(0-4096*4096*128)/(0-1)", 0);
        cost("(0-4096*4096*128)/(0-1)-1", Integer.MAX_VALUE);
        cost("4096*4096*128-1", Integer.MAX_VALUE);
    }

    /** Compares the cost of an instance of 6 hours with cpu 2, memory 30 and price 400. */
    private static void cost(String sum, int want) {
        CloudMarket x = KIT.market("host 9 99;type 2 30 400;tenant 1;move " + sum + ";");
        x.launch(0, 0);
        x.pass(6);
        KIT.due("cost " + sum, x.migrationCost(0), want < 0 ? 0 : want);
    }

    private static void drainTo() {
        CloudMarket x = KIT.market("host 4 6;host 3 9;host 9 3;type 2 1 1;type 1 2 1;tenant 99;");
        KIT.due("launch", x.launch(0, 0), 0);
        KIT.due("launch", x.launch(0, 1), 1);
        KIT.due("both on the first", x.instancesOn(0), 3);
        KIT.due("to the second", x.drainTo(0, 0), 1);
        KIT.due("to the second, with the other", x.drainTo(0, 1), 1);
        KIT.due("nothing changes", x.instancesOn(0), 3);
        KIT.due("launch", x.launch(0, 1), 2);
        KIT.due("free", x.free(0, false), 0);
        KIT.due("first", x.drainTo(0, 0), 1);
        KIT.due("second", x.drainTo(0, 1), 1);
        KIT.due("third has no room there", x.drainTo(0, 2), 2);
        KIT.due("launch", x.launch(0, 0), 3);
        KIT.due("on another host", x.hostOf(3), 1);
        KIT.state("not on the host", () -> x.drainTo(0, 3));
        KIT.due("around it", x.drainTo(0, 0), 2);
        KIT.due("around it", x.drainTo(0, 1), 1);
        KIT.due("around it", x.drainTo(0, 2), 2);
        KIT.due("back", x.drainTo(1, 3), 2);
        KIT.index("host", () -> x.drainTo(3, 0));
        KIT.index("host", () -> x.drainTo(-1, 0));
        KIT.index("instance", () -> x.drainTo(0, 4));
        KIT.index("instance", () -> x.drainTo(0, -1));
        KIT.index("instance", () -> x.drainTo(2, 12));
        CloudMarket y = KIT.market("host 4 4;type 2 1 1;tenant 99;");
        KIT.due("launch", y.launch(0, 0), 0);
        KIT.due("no other host", y.drainTo(0, 0), -1);
    }

    private static void drainToFirstOfSeveral() {
        // The first instance could go to host 0, but then the second finds no host.
        CloudMarket x = KIT.market("host 3 9;host 2 9;host 9 8;type 2 4 1;type 3 4 1;type 4 4 1;tenant 99;");
        KIT.due("launch", x.launch(0, 2), 0);
        KIT.due("the only one of 4", x.hostOf(0), 2);
        KIT.due("launch", x.launch(0, 0), 1);
        KIT.due("tightest", x.hostOf(1), 2);
        KIT.due("stop", x.stop(0), 2);
        KIT.due("launch", x.launch(0, 1), 0);
        KIT.due("move", x.hostOf(0) == 2 ? 4 : x.migrate(0, 2), 4);
        KIT.due("on", x.instancesOn(2), 3);
        KIT.due("the larger one first", x.drainTo(2, 0), 0);
        KIT.due("then the other", x.drainTo(2, 1), 1);
        // The same with the numbers changed: the smaller one is the first and must go on to host 1.
        CloudMarket y = KIT.market("host 3 9;host 2 9;host 9 8;type 2 4 1;type 3 4 1;tenant 99;");
        KIT.due("launch", y.launch(0, 0), 0);
        KIT.due("migrate", y.hostOf(0) == 2 ? 4 : y.migrate(0, 2), 4);
        KIT.due("launch", y.launch(0, 1), 1);
        KIT.due("migrate", y.hostOf(1) == 2 ? 4 : y.migrate(1, 2), 4);
        KIT.due("on", y.instancesOn(2), 3);
        KIT.due("not to host 0", y.drainTo(2, 0), 1);
        KIT.due("but this one", y.drainTo(2, 1), 0);
        KIT.due("launch", y.launch(0, 0), 2);
        KIT.due("where", y.hostOf(2), 1);
        KIT.due("none", y.drainTo(2, 0), -1);
        KIT.due("none", y.drainTo(2, 1), -1);
        // Many dead ends before the last host takes all.
        CloudMarket z = KIT.market("host 5 5;host 1 9;host 1 9;host 1 9;host 1 9;host 4 9;type 1 1 1;tenant 99;");
        for (int k = 0; k < 5; k++) {
            KIT.due("launch", z.launch(0, 0), k);
        }
        for (int k = 0; k < 5; k++) {
            KIT.due("on the first", z.hostOf(k), 0);
            KIT.due("one each", z.drainTo(0, k), k + 1);
        }
    }

    private static void drainToByMemory() {
        // Each of the hosts 1 and 2 has cpu for all, but memory for one of 5 or two of 3.
        CloudMarket x = KIT.market("host 9 11;host 64 6;host 64 6;type 1 5 1;type 1 3 1;tenant 99;");
        KIT.due("launch", x.launch(0, 1), 0);
        KIT.due("launch", x.launch(0, 0), 1);
        KIT.due("launch", x.launch(0, 1), 2);
        KIT.due("all on one", x.instancesOn(0), 7);
        KIT.due("first", x.drainTo(0, 0), 1);
        KIT.due("second", x.drainTo(0, 1), 2);
        KIT.due("third", x.drainTo(0, 2), 1);
        KIT.due("drain", x.drain(0), 3);
        KIT.due("on", x.instancesOn(1), 5);
        KIT.due("on", x.instancesOn(2), 2);
        KIT.due("fewest", x.fewestHosts(), 1);
        // By memory three hosts of 6 are needed for 5, 3, 3 and 3, though cpu would do with one.
        CloudMarket y = KIT.market("host 64 6;host 64 6;host 64 6;host 64 6;type 1 5 1;type 1 3 1;tenant 99;");
        int[] types = {0, 1, 1, 1};
        for (int k = 0; k < types.length; k++) {
            KIT.due("launch", y.launch(0, types[k]), k);
        }
        KIT.due("fewest", y.fewestHosts(), 3);
        KIT.due("stop", y.stop(3) >= 0, true);
        KIT.due("fewest", y.fewestHosts(), 2);
    }

    private static void drainToLimits() {
        CloudMarket x = KIT.market("host 9 9;host 9 10;type 1 1 1;tenant 99;");
        for (int k = 0; k < 5; k++) {
            KIT.due("launch", x.launch(0, 0), k);
        }
        KIT.due("five", x.drainTo(0, 4), 1);
        KIT.due("launch", x.launch(0, 0), 5);
        KIT.state("six", () -> x.drainTo(0, 0));
        KIT.state("not on the host", () -> x.drainTo(1, 0));
        KIT.index("first", () -> x.drainTo(0, 6));
        KIT.index("first", () -> x.drainTo(2, 0));
    }
}
