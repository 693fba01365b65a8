/** Promises 30 and 31: priceAfter, evictedAfter. */
public final class AheadTest {
    private static final Kit KIT = new Kit("AheadTest");

    public static void main(String[] args) {
        priceAfter();
        evictedAfter();
        numbersTakenAgain();
        twoHundredHours();
        limits();
        endOfTheClock();
        KIT.end();
    }

    private static void priceAfter() {
        KIT.says(30, "Returns the spot price of a type after some hours, if only time passes.");
        CloudMarket x = KIT.market("host 4 9;type 1 1 100;tenant 99;notice 2;");
        KIT.due("bid", x.bid(0, 0, 44), 1);
        KIT.due("now", x.priceAfter(0, 0), 20);
        KIT.due("the request is not granted yet", x.priceAfter(0, 1), 20);
        int[] prices = {45, 45, 20, 20};
        for (int k = 0; k < prices.length; k++) {
            // Granted at 1, notice at 2 for 4, evicted at 4.
            KIT.due("after " + (k + 2), x.priceAfter(0, k + 2), prices[k]);
        }
        KIT.due("nothing passed", x.clock(), 0);
        KIT.due("nothing granted", x.waiting(), 1);
        KIT.due("nothing runs", x.running(), 0);
        KIT.due("no change to undo but the bid", x.undo(), 0);
        KIT.due("launch", x.launch(0, 0), 0);
        KIT.due("now", x.priceAfter(0, 0), 20);
        KIT.due("with the load", x.priceAfter(0, 1), 45);
        KIT.due("far", x.priceAfter(0, 200), 45);
        KIT.due("nothing paid", x.spent(0), 0);
    }

    private static void evictedAfter() {
        KIT.says(31, "Returns after how many hours an instance will be evicted, if only time passes.");
        CloudMarket x = KIT.market("host 4 9;type 1 1 100;tenant 99;notice 2;");
        KIT.due("bid", x.bid(0, 0, 44), 1);
        KIT.due("launch", x.launch(0, 0), 0);
        KIT.due("a regular one", x.evictedAfter(0), -1);
        KIT.due("pass", x.pass(1), 0);
        KIT.due("the bid is too low now", x.waiting(), 1);
        KIT.due("stop", x.stop(0), 0);
        KIT.due("pass", x.pass(1), 0);
        KIT.due("granted", x.running(), 1);
        KIT.due("notice in one hour for two hours later", x.evictedAfter(0), 3);
        KIT.due("pass", x.pass(1), 0);
        KIT.due("two more", x.evictedAfter(0), 2);
        KIT.due("pass", x.pass(1), 0);
        KIT.due("one more", x.evictedAfter(0), 1);
        KIT.due("still there", x.running(), 1);
        KIT.due("pass", x.pass(1), 1);
        CloudMarket y = KIT.market("host 4 9;type 1 1 100;tenant 99;notice 48;");
        KIT.due("bid", y.bid(0, 0, 44), 1);
        KIT.due("bid", y.bid(0, 0, 99), 2);
        KIT.due("pass", y.pass(1), 0);
        KIT.due("the high bid stays", y.evictedAfter(0), -1);
        KIT.due("long notice", y.evictedAfter(1), 49);
        KIT.due("by hand, but lost with the hour", y.evict(0), 49);
        KIT.due("never", y.evictedAfter(0), -1);
        CloudMarket z = KIT.market("host 4 9;type 1 1 100;tenant 99;notice 0;");
        KIT.due("bid", z.bid(0, 0, 99), 1);
        KIT.due("pass", z.pass(1), 0);
        KIT.due("never", z.evictedAfter(0), -1);
        KIT.due("by hand", z.evict(0), 1);
        KIT.due("with the next hour", z.evictedAfter(0), 1);
        CloudMarket w = KIT.market("host 4 9;type 1 1 100;tenant 99;notice 1;");
        KIT.due("bid", w.bid(0, 0, 99), 1);
        KIT.due("pass", w.pass(1), 0);
        KIT.due("by hand", w.evict(0), 2);
        KIT.due("before it is lost", w.evictedAfter(0), 1);
    }

    private static void numbersTakenAgain() {
        // When number 0 is evicted, the waiting request takes its number in the same hour.
        CloudMarket x = KIT.market("host 1 9;type 1 1 100;tenant 99;tenant 99;notice 0;");
        KIT.due("bid", x.bid(0, 0, 99), 1);
        KIT.due("bid", x.bid(1, 0, 98), 2);
        KIT.due("pass", x.pass(1), 0);
        KIT.due("tenant", x.tenantOf(0), 0);
        KIT.due("full load costs 100 in the next hour", x.evictedAfter(0), 2);
        KIT.due("pass", x.pass(2), 1);
        KIT.due("taken again", x.tenantOf(0), 1);
        KIT.due("running", x.running(), 1);
        KIT.due("the same again", x.evictedAfter(0), 2);
    }

    private static void twoHundredHours() {
        KIT.says(31, "Returns 1 to 200; NONE if it will not be evicted in 200 hours.");
        // Four requests after one another take host 1 for 40 hours each, then one for so much
        // that the price rises above the bid of instance 0, which has its notice for 39 hours later.
        CloudMarket x = KIT.market("host 10 1;host 10 10;type 1 1 1000;type 2 10 1000;type 8 10 1000;tenant 9999;"
            + "floor 10;notice 39;");
        KIT.due("bid", x.bid(0, 0, 300), 1);
        KIT.due("pass", x.pass(1), 0);
        for (int k = 1; k <= 4; k++) {
            KIT.due("bid", x.bid(0, 1, 200), k);
        }
        KIT.due("bid", x.bid(0, 2, 160), 5);
        KIT.due("201 hours are too far", x.evictedAfter(0), -1);
        KIT.due("pass", x.pass(1), 0);
        KIT.due("the first of the four", x.evictedAfter(1), 40);
        KIT.due("200 hours", x.evictedAfter(0), 200);
        KIT.due("price of the four", x.priceAfter(0, 160), 150);
        KIT.due("price of the last", x.priceAfter(0, 161), 550);
        KIT.due("price of the last", x.priceAfter(0, 199), 550);
        KIT.due("price of none", x.priceAfter(0, 200), 100);
        KIT.argument("no further", () -> x.priceAfter(0, 201));
        KIT.due("it comes so", x.pass(199), 4);
        KIT.due("running", x.running(), 3);
        KIT.due("it comes so", x.pass(1), 2);
        KIT.due("running", x.running(), 0);
    }

    private static void limits() {
        KIT.says(30, "- `hours`: 0 to 200");
        CloudMarket x = KIT.market("host 4 9;type 1 1 100;tenant 99;");
        KIT.due("launch", x.launch(0, 0), 0);
        KIT.due("most hours", x.priceAfter(0, 200), 45);
        KIT.argument("too many", () -> x.priceAfter(0, 201));
        KIT.argument("negative", () -> x.priceAfter(0, -1));
        KIT.argument("most", () -> x.priceAfter(0, Integer.MAX_VALUE));
        KIT.index("type", () -> x.priceAfter(1, 0));
        KIT.index("type first", () -> x.priceAfter(1, 201));
        KIT.index("type first", () -> x.priceAfter(-1, -1));
        KIT.index("instance", () -> x.evictedAfter(1));
        KIT.index("instance", () -> x.evictedAfter(-1));
        KIT.index("instance", () -> x.evictedAfter(12));
        KIT.index("instance", () -> x.evictedAfter(32));
    }

    private static void endOfTheClock() {
        // Only pass is bound by the end of the clock; predictions go on behind it.
        CloudMarket x = KIT.market("host 4 9;type 1 1 100;tenant 9999;notice 2;");
        for (int k = 0; k < 19; k++) {
            KIT.due("pass", x.pass(500), 0);
        }
        KIT.due("pass", x.pass(498), 0);
        KIT.due("bid", x.bid(0, 0, 44), 1);
        KIT.due("pass", x.pass(1), 0);
        KIT.due("clock", x.clock(), 9999);
        KIT.due("running", x.running(), 1);
        KIT.due("evicted", x.evictedAfter(0), 3);
        KIT.due("price", x.priceAfter(0, 1), 45);
        KIT.due("price", x.priceAfter(0, 3), 20);
    }
}
