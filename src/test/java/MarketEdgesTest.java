/** The boundary cases of instances, spot prices, hours and bills, sentence by sentence. */
public final class MarketEdgesTest {
    private static final Kit KIT = new Kit("MarketEdgesTest");
    /** A price of 20, 45, 70, 95 and 100 with 0 to 4 instances. */
    private static final String QUARTERS = "host 4 9;type 1 1 100;tenant 9999;tenant 9999;";

    public static void main(String[] args) {
        kindsOfInstances();
        twelve();
        twelveByRequests();
        loads();
        fits();
        bestHost();
        use();
        spotPriceRounding();
        spotPriceAtMost();
        pricesStayBetweenHours();
        clock();
        billsFirst();
        noticesDue();
        pricesBetweenEvictionsAndGrants();
        bidsAndPrices();
        noticeHours();
        noticesByHand();
        grantsByPrice();
        grantsByOrder();
        grantsByRoom();
        grantsOfTen();
        activeHours();
        lastHours();
        coveredOnes();
        payments();
        spotBills();
        spending();
        overBudget();
        KIT.end();
    }

    private static void launches(CloudMarket x, int many) {
        for (int k = 0; k < many; k++) {
            KIT.due("launch", x.launch(0, 0), k);
        }
    }

    // ---- instances

    private static void kindsOfInstances() {
        KIT.says(0, "An instance belongs to a tenant, has a type, and runs on a host. It is regular or a spot instance; a "
            + "spot instance has a bid.");
        CloudMarket x = KIT.market("host 1 1;host 2 2;type 2 2 5;type 1 1 4;tenant 1;tenant 1;slope 0;");
        KIT.due("launch", x.launch(1, 0), 0);
        KIT.due("the lowest bid", x.bid(0, 1, 1), 1);
        KIT.due("pass", x.pass(1), 0);
        KIT.due("tenant", x.tenantOf(0), 1);
        KIT.due("type", x.typeOf(0), 0);
        KIT.due("host", x.hostOf(0), 1);
        KIT.due("no bid", x.bidOf(0), -1);
        KIT.due("tenant", x.tenantOf(1), 0);
        KIT.due("type", x.typeOf(1), 1);
        KIT.due("host", x.hostOf(1), 0);
        KIT.due("bid", x.bidOf(1), 1);
    }

    private static void twelve() {
        KIT.says(0, "At most 12 instances run at a time; a new instance gets the lowest number from 0 to 11 that no "
            + "running instance has.");
        CloudMarket x = KIT.market("host 64 64;type 1 1 100;tenant 9999;slope 0;");
        launches(x, 12);
        KIT.state("a thirteenth", () -> x.launch(0, 0));
        KIT.due("bid", x.bid(0, 0, 9999), 1);
        KIT.due("pass", x.pass(1), 0);
        KIT.due("a thirteenth waits", x.waiting(), 1);
        KIT.due("running", x.running(), 4095);
        KIT.due("stop the last", x.stop(11), 0);
        KIT.due("pass", x.pass(1), 0);
        KIT.due("the twelfth", x.bidOf(11), 9999);
        KIT.state("a thirteenth", () -> x.launch(0, 0));
        KIT.due("stop", x.stop(5), 0);
        KIT.due("stop", x.stop(0), 0);
        KIT.due("stop", x.stop(11), 0);
        KIT.due("the lowest", x.launch(0, 0), 0);
        KIT.due("the next", x.launch(0, 0), 5);
        KIT.due("the highest", x.launch(0, 0), 11);
        KIT.state("a thirteenth", () -> x.launch(0, 0));
    }

    private static void twelveByRequests() {
        CloudMarket x = KIT.market("host 64 64;type 1 1 100;tenant 9999;slope 0;notice 0;");
        launches(x, 11);
        KIT.due("stop", x.stop(3), 0);
        for (int k = 1; k <= 3; k++) {
            KIT.due("bid", x.bid(0, 0, 20 + k), k);
        }
        KIT.due("pass", x.pass(1), 0);
        KIT.due("the dearest takes the lowest number", x.bidOf(3), 23);
        KIT.due("the next the last", x.bidOf(11), 22);
        KIT.due("one waits", x.waitingBid(0), 21);
        KIT.due("evict", x.evict(11), 1);
        KIT.due("the number is free in the same hour", x.pass(1), 1);
        KIT.due("and taken", x.bidOf(11), 21);
        KIT.due("none waits", x.waiting(), 0);
    }

    private static void loads() {
        KIT.says(0, "The load of a host is the sum of cpu and the sum of memory over its instances; neither ever exceeds "
            + "that of the host.");
        String[] hosts = {"host 3 9;", "host 9 3;", "host 3 3;"};
        for (String host : hosts) {
            CloudMarket x = KIT.market(host + "type 1 1 1;tenant 9;slope 0;");
            launches(x, 3);
            KIT.state("a fourth", () -> x.launch(0, 0));
            CloudMarket y = KIT.market(host + "type 1 1 1;tenant 9;slope 0;");
            for (int k = 1; k <= 4; k++) {
                KIT.due("bid", y.bid(0, 0, 9), k);
            }
            KIT.due("pass", y.pass(2), 0);
            KIT.due("three run", y.running(), 7);
            KIT.due("the fourth waits", y.waiting(), 1);
        }
        CloudMarket x = KIT.market("host 10 20;type 2 3 1;type 3 5 1;tenant 9;");
        KIT.due("launch", x.launch(0, 0), 0);
        KIT.due("launch", x.launch(0, 1), 1);
        KIT.due("cpu", x.free(0, false), 5);
        KIT.due("memory", x.free(0, true), 12);
        KIT.due("stop", x.stop(0), 0);
        KIT.due("cpu", x.free(0, false), 7);
        KIT.due("memory", x.free(0, true), 15);
    }

    private static void fits() {
        KIT.says(0, "An instance fits a host if its cpu and its memory are at most what the host has free.");
        CloudMarket x = KIT.market("host 5 7;type 5 7 1;type 6 7 1;type 5 8 1;type 1 1 1;type 4 6 1;tenant 9;");
        KIT.due("as much as there is", x.bestHost(0), 0);
        KIT.due("one cpu too much", x.bestHost(1), -1);
        KIT.due("one memory too much", x.bestHost(2), -1);
        KIT.due("launch", x.launch(0, 3), 0);
        KIT.due("more than is free", x.bestHost(0), -1);
        KIT.due("as much as is free", x.bestHost(4), 0);
        KIT.due("launch", x.launch(0, 4), 1);
        KIT.due("nothing is free", x.bestHost(3), -1);
        CloudMarket y = KIT.market("host 64 256;type 64 256 1;type 1 1 1;tenant 9;");
        KIT.due("the largest", y.launch(0, 0), 0);
        KIT.due("nothing is free", y.bestHost(1), -1);
        CloudMarket z = KIT.market("host 5 7;type 4 7 1;type 1 1 1;tenant 9;");
        KIT.due("launch", z.launch(0, 0), 0);
        KIT.due("cpu alone is free", z.bestHost(1), -1);
        CloudMarket w = KIT.market("host 5 7;type 5 6 1;type 1 1 1;tenant 9;");
        KIT.due("launch", w.launch(0, 0), 0);
        KIT.due("memory alone is free", w.bestHost(1), -1);
    }

    private static void bestHost() {
        KIT.says(0, "The best host for a type is, among the hosts that it fits, the one for which the sum of free cpu and "
            + "free memory is the smallest; of several the lowest.");
        CloudMarket x = KIT.market("host 9 9;host 4 14;host 14 4;host 3 14;type 4 4 1;type 1 5 1;type 10 1 1;"
            + "type 4 10 1;tenant 9;");
        KIT.due("three of 18: the lowest", x.bestHost(0), 0);
        KIT.due("17 is less", x.bestHost(1), 3);
        KIT.due("the only one with the cpu", x.bestHost(2), 2);
        KIT.due("the only one with both", x.bestHost(3), 1);
        KIT.due("launch", x.launch(0, 3), 0);
        KIT.due("the free parts count: 4 is less", x.bestHost(1), 3);
        KIT.due("a full one does not fit", x.bestHost(3), -1);
        CloudMarket y = KIT.market("host 3 3;host 3 3;host 3 3;type 1 1 1;tenant 9;");
        int[] expected = {0, 0, 0, 1, 1, 1, 2, 2, 2};
        for (int k = 0; k < expected.length; k++) {
            KIT.due("best", y.bestHost(0), expected[k]);
            KIT.due("launch", y.launch(0, 0), k);
            KIT.due("host", y.hostOf(k), expected[k]);
        }
        KIT.due("none", y.bestHost(0), -1);
    }

    // ---- spot prices

    private static void use() {
        KIT.says(0, "The use is the percentage of the cpu of all hosts that is in load, rounded down (0 without hosts).");
        CloudMarket x = KIT.market("host 3 9;type 1 1 100;tenant 99;floor 1;");
        // 33.3 and 66.7 percent.
        int[] prices = {1, 34, 67, 100};
        for (int k = 0; k < prices.length; k++) {
            KIT.due("price with " + k, x.spotPrice(0), prices[k]);
            KIT.due("launch", k < 3 ? x.launch(0, 0) : k, k);
            KIT.due("pass", x.pass(1), 0);
        }
        CloudMarket y = KIT.market("host 64 64;".repeat(8) + "type 5 1 100;type 1 1 100;tenant 99;floor 1;");
        KIT.due("launch", y.launch(0, 0), 0);
        KIT.due("pass", y.pass(1), 0);
        KIT.due("5 of 512 are less than a percent", y.spotPrice(0), 1);
        KIT.due("launch", y.launch(0, 1), 1);
        KIT.due("pass", y.pass(1), 0);
        KIT.due("6 of 512 are more", y.spotPrice(0), 2);
        CloudMarket z = KIT.market("type 1 1 100;floor 1;slope 400;");
        KIT.due("no hosts", z.spotPrice(0), 1);
        KIT.due("pass", z.pass(1), 0);
        KIT.due("no hosts", z.spotPrice(0), 1);
    }

    private static void spotPriceRounding() {
        KIT.says(0, "The spot price of a type is its price times (floor + slope * use / 100) / 100, where both quotients "
            + "are rounded down (the second after the product with the price), but at most its price.");
        // 100 cpu in all, so that an instance is a percent; 1.5, 3 and 4.5 of slope.
        CloudMarket x = KIT.market("host 50 64;host 50 64;type 1 1 9999;type 1 1 1;type 1 1 10;tenant 9999;floor 10;"
            + "slope 150;");
        int[] prices = {999, 1099, 1299, 1399};
        for (int k = 0; k < prices.length; k++) {
            KIT.due("price with " + k, x.spotPrice(0), prices[k]);
            KIT.due("price of 1", x.spotPrice(1), 0);
            KIT.due("price of 10", x.spotPrice(2), 1);
            KIT.due("launch", x.launch(0, 0), k);
            KIT.due("pass", x.pass(1), 0);
        }
        CloudMarket y = KIT.market("type 1 1 1;type 1 1 2;type 1 1 100;type 1 1 9999;floor 99;");
        KIT.due("99 percent of 1", y.spotPrice(0), 0);
        KIT.due("99 percent of 2", y.spotPrice(1), 1);
        KIT.due("99 percent of 100", y.spotPrice(2), 99);
        KIT.due("99 percent of 9999", y.spotPrice(3), 9899);
    }

    private static void spotPriceAtMost() {
        int[][] cases = {{99, 0, 9899}, {99, 1, 9999}, {100, 0, 9999}, {100, 1, 9999}, {100, 400, 9999}, {1, 98, 9899},
            {1, 99, 9999}, {1, 100, 9999}, {1, 400, 9999}};
        for (int[] c : cases) {
            CloudMarket x = KIT.market("host 1 1;type 1 1 9999;tenant 9999;floor " + c[0] + ";slope " + c[1] + ";");
            KIT.due("launch", x.launch(0, 0), 0);
            KIT.due("pass", x.pass(1), 0);
            KIT.due("full load, floor " + c[0] + ", slope " + c[1], x.spotPrice(0), c[2]);
        }
    }

    private static void pricesStayBetweenHours() {
        KIT.says(0, "It follows the present load at the time when it is set: spot prices are set by a parse and once in "
            + "each hour (see below), and stay the same in between.");
        CloudMarket x = KIT.market("host 4 9;host 4 9;type 2 1 100;tenant 99;");
        KIT.due("by the parse", x.spotPrice(0), 20);
        KIT.due("launch", x.launch(0, 0), 0);
        KIT.due("after a launch", x.spotPrice(0), 20);
        KIT.due("bid", x.bid(0, 0, 99), 1);
        KIT.due("after a bid", x.spotPrice(0), 20);
        KIT.due("pass", x.pass(1), 0);
        KIT.due("by the hour", x.spotPrice(0), 45);
        KIT.due("evict", x.evict(1), 3);
        KIT.due("migrate", x.migrate(1, 1), 1);
        KIT.due("drain", x.drain(0), 1);
        KIT.due("withdraw", x.withdraw(0), 0);
        KIT.due("after other changes", x.spotPrice(0), 45);
        KIT.due("stop", x.stop(0), 1);
        KIT.due("after a stop", x.spotPrice(0), 45);
        KIT.due("save", x.saveSnapshot(0), false);
        KIT.due("pass", x.pass(1), 0);
        KIT.due("by the hour", x.spotPrice(0), 45);
        KIT.due("stop", x.stop(1), 1);
        KIT.due("pass", x.pass(1), 0);
        KIT.due("by the hour", x.spotPrice(0), 20);
        KIT.due("restore", x.restoreSnapshot(0), 1);
        KIT.due("the restored one", x.spotPrice(0), 45);
        KIT.due("parse", Kit.parse(x, "type 1 1 50;"), 0);
        KIT.due("by the next parse", x.spotPrice(0), 10);
    }

    // ---- hours

    private static void clock() {
        KIT.says(0, "The clock shows hours, 0 to 9999, and is 0 at first.");
        CloudMarket x = new CloudMarket();
        KIT.due("at first", x.clock(), 0);
        KIT.due("pass", x.pass(499), 0);
        for (int k = 0; k < 19; k++) {
            KIT.due("pass", x.pass(500), 0);
        }
        KIT.due("at last", x.clock(), 9999);
        KIT.state("no further", () -> x.pass(1));
        KIT.due("at last", x.clock(), 9999);
        KIT.due("parse", x.parse(0), 0);
        KIT.due("at first", x.clock(), 0);
    }

    private static void billsFirst() {
        KIT.says(0, "1. Bills for the hour that passes: see below. Then the clock increases by 1.");
        CloudMarket x = KIT.market(QUARTERS + "reserve 0 0 1 0 1 90;reserve 0 0 1 1 2 80;notice 0;");
        KIT.due("launch", x.launch(0, 0), 0);
        KIT.due("pass", x.pass(1), 0);
        KIT.due("the hour 0", x.spent(0), 10);
        KIT.due("clock", x.clock(), 1);
        KIT.due("pass", x.pass(1), 0);
        KIT.due("the hour 1", x.spent(0), 30);
        KIT.due("pass", x.pass(1), 0);
        KIT.due("the hour 2", x.spent(0), 130);
        // With the instances and the prices from before the hour.
        CloudMarket y = KIT.market(QUARTERS + "notice 0;");
        KIT.due("bid", y.bid(1, 0, 99), 1);
        KIT.due("pass", y.pass(1), 0);
        KIT.due("a request that is granted at its end", y.spent(1), 0);
        KIT.due("evict", y.evict(0), 1);
        KIT.due("pass", y.pass(1), 1);
        KIT.due("an instance that is evicted at its end", y.spent(1), 20);
        KIT.due("pass", y.pass(1), 0);
        KIT.due("no more", y.spent(1), 20);
    }

    private static void noticesDue() {
        KIT.says(0, "2. Each instance with a notice for an hour that is at most the clock is evicted: it stops, and its "
            + "number is free.");
        for (int notice = 0; notice <= 3; notice++) {
            CloudMarket x = KIT.market(QUARTERS + "notice " + notice + ";");
            KIT.due("bid", x.bid(0, 0, 99), 1);
            KIT.due("pass", x.pass(1), 0);
            KIT.due("evict", x.evict(0), 1 + notice);
            // At clock 2 the notices for 1 and 2 are due, that for 3 is not and is lost.
            KIT.due("evicted with notice " + notice, x.pass(1), notice <= 1 ? 1 : 0);
            KIT.due("runs", x.running(), notice <= 1 ? 0 : 1);
            KIT.due("its number", x.launch(1, 0), notice <= 1 ? 0 : 1);
        }
        CloudMarket y = KIT.market(QUARTERS + "notice 3;");
        KIT.due("bid", y.bid(0, 0, 44), 1);
        KIT.due("pass", y.pass(2), 0);
        KIT.due("by a low bid", y.noticeOf(0), 5);
        KIT.due("before it is due", y.pass(2), 0);
        KIT.due("runs", y.running(), 1);
        KIT.due("free", y.free(0, false), 3);
        KIT.due("when it is due", y.pass(1), 1);
        KIT.due("runs no more", y.running(), 0);
        KIT.due("free", y.free(0, false), 4);
        KIT.index("no such instance", () -> y.hostOf(0));
    }

    private static void pricesBetweenEvictionsAndGrants() {
        KIT.says(0, "3. The spot prices are set.");
        CloudMarket x = KIT.market(QUARTERS + "notice 1;");
        KIT.due("bid", x.bid(0, 0, 99), 1);
        KIT.due("pass", x.pass(1), 0);
        KIT.due("before the grants", x.spotPrice(0), 20);
        KIT.due("pass", x.pass(1), 0);
        KIT.due("with the granted one", x.spotPrice(0), 45);
        KIT.due("evict", x.evict(0), 3);
        KIT.due("bid", x.bid(1, 0, 20), 1);
        KIT.due("pass", x.pass(1), 1);
        KIT.due("after the evictions", x.spotPrice(0), 20);
        KIT.due("so that 20 is enough", x.bidOf(0), 20);
    }

    private static void bidsAndPrices() {
        KIT.says(0, "4. Each spot instance whose bid is less than the spot price of its type gets a notice for the clock "
            + "plus the hours of notice, if it has none; each other one loses its notice.");
        int[] bids = {44, 45, 46};
        for (int bid : bids) {
            CloudMarket x = KIT.market(QUARTERS + "notice 5;");
            KIT.due("bid", x.bid(0, 0, bid), 1);
            KIT.due("pass", x.pass(2), 0);
            KIT.due("price", x.spotPrice(0), 45);
            KIT.due("notice with a bid of " + bid, x.noticeOf(0), bid < 45 ? 7 : -1);
        }
        CloudMarket y = KIT.market(QUARTERS + "notice 5;");
        KIT.due("bid", y.bid(0, 0, 45), 1);
        KIT.due("pass", y.pass(1), 0);
        KIT.due("launch", y.launch(0, 0), 1);
        KIT.due("pass", y.pass(1), 0);
        KIT.due("a notice at 70", y.noticeOf(0), 7);
        KIT.due("none for a regular one", y.noticeOf(1), -1);
        KIT.due("pass", y.pass(1), 0);
        KIT.due("it has one already", y.noticeOf(0), 7);
        KIT.due("stop", y.stop(1), 0);
        KIT.due("it stays until the hour", y.noticeOf(0), 7);
        KIT.due("pass", y.pass(1), 0);
        KIT.due("at 45 it is lost", y.noticeOf(0), -1);
        KIT.due("launch", y.launch(0, 0), 1);
        KIT.due("pass", y.pass(1), 0);
        KIT.due("a new one", y.noticeOf(0), 10);
        // The price of its own type counts.
        CloudMarket z = KIT.market("host 4 9;type 1 1 100;type 1 1 200;tenant 99;");
        KIT.due("bid", z.bid(0, 0, 70), 1);
        KIT.due("bid", z.bid(0, 1, 139), 2);
        KIT.due("pass", z.pass(2), 0);
        KIT.due("139 of 140", z.noticeOf(0), 4);
        KIT.due("70 of 70", z.noticeOf(1), -1);
    }

    private static void noticeHours() {
        int[] hours = {0, 1, 2, 47, 48};
        for (int notice : hours) {
            CloudMarket x = KIT.market(QUARTERS + "notice " + notice + ";");
            KIT.due("bid", x.bid(0, 0, 44), 1);
            KIT.due("pass", x.pass(2), 0);
            KIT.due("notice", x.noticeOf(0), 2 + notice);
            // Even a notice for the clock itself is looked at only in the next hour.
            int rest = Math.max(1, notice);
            KIT.due("not before", rest > 1 ? x.pass(rest - 1) : 0, 0);
            KIT.due("runs", x.running(), 1);
            KIT.due("then", x.pass(1), 1);
        }
    }

    private static void noticesByHand() {
        KIT.says(0, "(Notices given by hand with evict stay until step 4 of the next hour like all others.)");
        CloudMarket x = KIT.market(QUARTERS + "notice 2;");
        KIT.due("bid", x.bid(0, 0, 70), 1);
        KIT.due("pass", x.pass(1), 0);
        KIT.due("evict", x.evict(0), 3);
        KIT.due("it stays", x.noticeOf(0), 3);
        KIT.due("pass", x.pass(1), 0);
        KIT.due("the bid is enough: it is lost", x.noticeOf(0), -1);
        KIT.due("evict", x.evict(0), 4);
        KIT.due("launch", x.launch(0, 0), 1);
        KIT.due("launch", x.launch(0, 0), 2);
        KIT.due("pass", x.pass(1), 0);
        KIT.due("the bid is too low: it is kept", x.noticeOf(0), 4);
        KIT.due("and due", x.pass(1), 1);
    }

    private static void grantsByPrice() {
        KIT.says(0, "5. The waiting requests are considered by descending bid, with equal bids by the order in which they "
            + "were made: if the bid is at least the spot price of the type, fewer than 12 instances run, and there is a "
            + "best host for the type, the request becomes a spot instance on that host.");
        int[] bids = {19, 20, 21};
        for (int bid : bids) {
            CloudMarket x = KIT.market(QUARTERS);
            KIT.due("bid", x.bid(0, 0, bid), 1);
            KIT.due("pass", x.pass(1), 0);
            KIT.due("a bid of " + bid + " for 20", x.running(), bid < 20 ? 0 : 1);
            KIT.due("waits", x.waiting(), bid < 20 ? 1 : 0);
        }
        CloudMarket y = KIT.market("host 4 9;type 1 1 1;tenant 9;");
        KIT.due("the lowest bid", y.bid(0, 0, 1), 1);
        KIT.due("pass", y.pass(1), 0);
        KIT.due("for a price of 0", y.running(), 1);
        // The price is not set anew between the grants of one hour.
        CloudMarket z = KIT.market(QUARTERS);
        for (int k = 1; k <= 4; k++) {
            KIT.due("bid", z.bid(0, 0, 20), k);
        }
        KIT.due("pass", z.pass(1), 0);
        KIT.due("all four", z.running(), 15);
    }

    private static void grantsByOrder() {
        CloudMarket x = KIT.market("host 1 1;type 1 1 100;tenant 9;tenant 9;tenant 9;tenant 9;notice 0;");
        int[][] requests = {{0, 50}, {1, 60}, {2, 50}, {3, 60}, {0, 50}};
        for (int k = 0; k < requests.length; k++) {
            KIT.due("bid", x.bid(requests[k][0], 0, requests[k][1]), k + 1);
        }
        int[] order = {1, 3, 0, 2, 0};
        for (int k = 0; k < order.length; k++) {
            KIT.due("pass", x.pass(1), 0);
            KIT.due("tenant " + k, x.tenantOf(0), order[k]);
            KIT.due("stop", x.stop(0), 0);
        }
        KIT.due("none waits", x.waiting(), 0);
        // A withdrawal does not change the order of the others.
        CloudMarket y = KIT.market("host 1 1;type 1 1 100;tenant 9;tenant 9;tenant 9;");
        for (int k = 0; k < 6; k++) {
            KIT.due("bid", y.bid(2 - k % 3, 0, 50), k + 1);
        }
        KIT.due("withdraw", y.withdraw(2), 2);
        int[] rest = {1, 0, 1, 0};
        for (int k = 0; k < rest.length; k++) {
            KIT.due("pass", y.pass(1), 0);
            KIT.due("tenant " + k, y.tenantOf(0), rest[k]);
            KIT.due("stop", y.stop(0), 0);
        }
    }

    private static void grantsByRoom() {
        // The first finds no host, the second takes the best of two, the third what is left.
        CloudMarket x = KIT.market("host 2 2;host 3 3;type 4 1 100;type 2 2 100;type 3 3 100;type 1 4 100;tenant 9;");
        KIT.due("bid", x.bid(0, 0, 90), 1);
        KIT.due("bid", x.bid(0, 1, 80), 2);
        KIT.due("bid", x.bid(0, 2, 70), 3);
        KIT.due("bid", x.bid(0, 3, 60), 4);
        KIT.due("bid", x.bid(0, 1, 50), 5);
        KIT.due("pass", x.pass(1), 0);
        KIT.due("two run", x.running(), 3);
        KIT.due("type", x.typeOf(0), 1);
        KIT.due("host", x.hostOf(0), 0);
        KIT.due("type", x.typeOf(1), 2);
        KIT.due("host", x.hostOf(1), 1);
        KIT.due("three wait", x.waiting(), 3);
        KIT.due("too much cpu", x.waitingBid(0), 90);
        KIT.due("too much memory", x.waitingBid(1), 60);
        KIT.due("no room any more", x.waitingBid(2), 50);
        KIT.due("stop", x.stop(0), 0);
        KIT.due("stop", x.stop(1), 1);
        KIT.due("pass", x.pass(1), 0);
        KIT.due("now there is room for the last", x.bidOf(0), 50);
    }

    private static void grantsOfTen() {
        CloudMarket x = KIT.market("host 64 64;type 1 1 100;tenant 9;");
        for (int k = 0; k < 10; k++) {
            KIT.due("bid", x.bid(0, 0, 50 + k), k + 1);
        }
        KIT.due("pass", x.pass(1), 0);
        KIT.due("all ten in one hour", x.running(), 1023);
        KIT.due("none waits", x.waiting(), 0);
        for (int k = 0; k < 10; k++) {
            KIT.due("the dearest has the lowest number", x.bidOf(k), 59 - k);
        }
    }

    // ---- bills

    private static void activeHours() {
        KIT.says(0, "For the hour that begins at clock h, a reservation is active if from <= h < until.");
        CloudMarket x = KIT.market("host 9 9;type 1 1 100;tenant 99;reserve 0 0 1 3 5 10;reserve 0 0 1 0 1 20;"
            + "reserve 0 0 1 6 7 30;");
        KIT.due("launch", x.launch(0, 0), 0);
        int[] bills = {80, 100, 100, 90, 90, 100, 70, 100};
        int sum = 0;
        for (int hour = 0; hour < bills.length; hour++) {
            KIT.due("bill at " + hour, x.hourlyBill(0), bills[hour]);
            KIT.due("covered at " + hour, x.covered(0, 0), bills[hour] < 100 ? 1 : 0);
            KIT.due("first pays at " + hour, x.pays(0), hour == 3 || hour == 4);
            KIT.due("second pays at " + hour, x.pays(1), hour == 0);
            KIT.due("third pays at " + hour, x.pays(2), hour == 6);
            KIT.due("pass", x.pass(1), 0);
            sum += bills[hour];
            KIT.due("spent", x.spent(0), sum);
        }
    }

    private static void lastHours() {
        CloudMarket x = KIT.market("host 9 9;type 1 1 100;tenant 9999;reserve 0 0 1 9998 9999 10;");
        KIT.due("launch", x.launch(0, 0), 0);
        KIT.due("pass", x.pass(497), 0);
        for (int k = 0; k < 19; k++) {
            KIT.due("pass", x.pass(500), 0);
        }
        int[] bills = {100, 90, 100};
        for (int hour = 9997; hour <= 9999; hour++) {
            KIT.due("clock", x.clock(), hour);
            KIT.due("bill at " + hour, x.hourlyBill(0), bills[hour - 9997]);
            KIT.due("pass", hour < 9999 ? x.pass(1) : 0, 0);
        }
        KIT.due("spent", x.spent(0), 9998 * 100 + 90);
        CloudMarket y = KIT.market("host 9 9;type 1 1 100;tenant 9999;reserve 0 0 1 0 9999 10;");
        KIT.due("launch", y.launch(0, 0), 0);
        KIT.due("pass", y.pass(499), 0);
        for (int k = 0; k < 19; k++) {
            KIT.due("pass", y.pass(500), 0);
        }
        KIT.due("all hours", y.spent(0), 9999 * 90);
        KIT.due("not active at 9999", y.hourlyBill(0), 100);
    }

    private static void coveredOnes() {
        KIT.says(0, "For each tenant and each type: n regular instances of them run, and r is the sum of many over the "
            + "active reservations of this tenant and type.");
        CloudMarket x = KIT.market("host 64 64;type 1 1 101;type 1 1 7;tenant 9999;tenant 9999;reserve 0 0 2 0 9 50;"
            + "reserve 0 0 1 0 9 50;reserve 0 0 9 1 9 0;");
        KIT.due("r is 3, since the third reservation is not active", x.hourlyBill(0), 150);
        KIT.due("r is 0 for another", x.hourlyBill(1), 0);
        KIT.says(0, "The first r regular instances are covered and cost nothing more; for each other one the tenant pays "
            + "the price.");
        for (int n = 0; n <= 5; n++) {
            // Three are covered, for 50 each.
            KIT.due("bill with " + n, x.hourlyBill(0), 150 + 101 * Math.max(0, n - 3));
            KIT.due("covered with " + n, x.covered(0, 0), Math.min(3, n));
            KIT.due("launch", x.launch(0, 0), n);
        }
        KIT.due("another tenant", x.launch(1, 0), 6);
        KIT.due("is not covered", x.hourlyBill(1), 101);
        KIT.due("another type", x.launch(0, 1), 7);
        KIT.due("is not covered", x.hourlyBill(0), 150 + 3 * 101 + 7);
        CloudMarket y = KIT.market("host 64 64;type 1 1 9999;tenant 9999;" + "reserve 0 0 9 0 9999 0;".repeat(8));
        KIT.due("all reservations are paid", y.hourlyBill(0), 72 * 9999);
        launches(y, 12);
        KIT.due("all are covered", y.covered(0, 0), 12);
        KIT.due("nothing more", y.hourlyBill(0), 72 * 9999);
    }

    private static void payments() {
        KIT.says(0, "For each active reservation the tenant pays many * (price * (100 - percent) / 100), with the "
            + "quotient rounded down.");
        int[][] cases = {{1, 9999, 0, 9999}, {9, 9999, 0, 89991}, {9, 9999, 1, 89091}, {9, 9999, 99, 891},
            {9, 9999, 100, 0}, {9, 1, 0, 9}, {9, 1, 1, 0}, {9, 3, 50, 9}, {2, 199, 50, 198}, {4, 101, 75, 100}};
        for (int[] c : cases) {
            CloudMarket x = KIT.market("type 1 1 " + c[1] + ";tenant 9;reserve 0 0 " + c[0] + " 0 1 " + c[2] + ";");
            String what = c[0] + " of " + c[1] + " with " + c[2] + " percent";
            KIT.due(what, x.hourlyBill(0), c[3]);
            KIT.due("pass", x.pass(1), 0);
            KIT.due(what, x.spent(0), c[3]);
            KIT.due("no more", x.hourlyBill(0), 0);
        }
    }

    private static void spotBills() {
        KIT.says(0, "For each spot instance the tenant pays the spot price of its type.");
        CloudMarket x = KIT.market("host 4 9;type 1 1 100;type 1 1 1;tenant 99;reserve 0 0 9 0 99 100;");
        KIT.due("bid", x.bid(0, 0, 9999), 1);
        KIT.due("bid", x.bid(0, 1, 9999), 2);
        KIT.due("pass", x.pass(1), 0);
        KIT.due("20 and 0, not the bids, and not covered", x.hourlyBill(0), 20);
        KIT.due("covered", x.covered(0, 0), 0);
        KIT.due("pass", x.pass(1), 0);
        KIT.due("70 and 0", x.hourlyBill(0), 70);
        KIT.due("launch", x.launch(0, 0), 2);
        KIT.due("a regular one is covered", x.hourlyBill(0), 70);
        KIT.due("covered", x.covered(0, 0), 1);
    }

    private static void spending() {
        KIT.says(0, "What a tenant has spent is the sum of all bills and of all costs of migrations that the tenant has "
            + "ordered.");
        CloudMarket x = KIT.market("host 9 9;host 9 9;type 1 1 7;tenant 9;tenant 9;move 4096*4096*128-1;");
        KIT.due("launch", x.launch(0, 0), 0);
        KIT.due("launch", x.launch(1, 0), 1);
        KIT.due("pass", x.pass(1), 0);
        KIT.due("migrate", x.migrate(0, 1), Integer.MAX_VALUE);
        KIT.due("more than an int", x.spent(0), 2147483647L + 7);
        KIT.due("drain", x.drain(1), 1);
        KIT.due("twice", x.spent(0), 2 * 2147483647L + 7);
        for (int k = 0; k < 8; k++) {
            KIT.due("migrate", x.migrate(0, 1 - k % 2), Integer.MAX_VALUE);
        }
        KIT.due("ten times", x.spent(0), 10 * 2147483647L + 7);
        KIT.due("not another", x.spent(1), 7);
        KIT.due("over", x.isOverBudget(0), true);
        KIT.due("not over", x.isOverBudget(1), false);
        KIT.due("pass", x.pass(1), 0);
        KIT.due("bills come on top", x.spent(0), 10 * 2147483647L + 14);
    }

    private static void overBudget() {
        KIT.says(0, "A tenant is over budget if this is greater than 100 * budget.");
        String[] budgets = {"0", "1", "2", "9999"};
        for (String budget : budgets) {
            CloudMarket x = KIT.market("host 9 9;host 9 9;type 1 1 100;type 1 1 9999;tenant " + budget + ";move 1;");
            int spent = 100 * Integer.parseInt(budget);
            int hours = spent > 9999 ? 100 : spent / 100;
            KIT.due("launch", x.launch(0, spent > 9999 ? 1 : 0), 0);
            KIT.due("pass", hours > 0 ? x.pass(hours) : 0, 0);
            KIT.due("spent", x.spent(0), spent);
            KIT.due("as much as the budget", x.isOverBudget(0), false);
            KIT.due("may launch", x.launch(0, 0), 1);
            KIT.due("may bid", x.bid(0, 0, 1), 1);
            KIT.due("migrate", x.migrate(0, 1), 1);
            KIT.due("one more", x.isOverBudget(0), true);
            KIT.state("may not launch", () -> x.launch(0, 0));
            KIT.state("may not bid", () -> x.bid(0, 0, 1));
            KIT.due("undo", x.undo() >= 0, true);
            KIT.due("as much as the budget", x.isOverBudget(0), false);
        }
    }
}
