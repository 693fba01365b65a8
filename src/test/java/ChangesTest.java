/** Promises 32 to 39: pass, launch, bid, withdraw, stop, evict, migrate, drain. */
public final class ChangesTest {
    private static final Kit KIT = new Kit("ChangesTest");

    public static void main(String[] args) {
        passLimits();
        passEvicts();
        passOrder();
        passGrants();
        passTwelve();
        launch();
        bid();
        withdraw();
        stop();
        evict();
        migrate();
        drain();
        drainLimits();
        failuresChangeNothing();
        KIT.end();
    }

    private static void passLimits() {
        CloudMarket x = new CloudMarket();
        KIT.argument("none", () -> x.pass(0));
        KIT.argument("negative", () -> x.pass(-1));
        KIT.argument("too many", () -> x.pass(501));
        KIT.argument("most", () -> x.pass(Integer.MAX_VALUE));
        KIT.due("least", x.pass(1), 0);
        for (int k = 0; k < 19; k++) {
            KIT.due("most", x.pass(500), 0);
        }
        KIT.due("clock", x.clock(), 9501);
        KIT.state("beyond", () -> x.pass(499));
        KIT.argument("argument first", () -> x.pass(501));
        KIT.due("to the end", x.pass(498), 0);
        KIT.due("clock", x.clock(), 9999);
        KIT.state("beyond", () -> x.pass(1));
        KIT.argument("argument first", () -> x.pass(0));
        KIT.due("clock", x.clock(), 9999);
    }

    private static void passEvicts() {
        CloudMarket x = KIT.market("host 10 99;type 1 1 100;tenant 99;tenant 99;notice 1;floor 10;");
        // Prices by load: 10, 20, 30, 40, 50 for 0 to 4 instances.
        for (int k = 0; k < 4; k++) {
            KIT.due("bid", x.bid(0, 0, 35), k + 1);
        }
        KIT.due("pass", x.pass(1), 0);
        KIT.due("running", x.running(), 15);
        KIT.due("pass", x.pass(1), 0);
        KIT.due("price", x.spotPrice(0), 50);
        KIT.due("all have notices", x.noticeOf(3), 3);
        KIT.due("new requests", x.bid(1, 0, 50), 1);
        KIT.due("launch", x.launch(1, 0), 4);
        KIT.due("four are evicted", x.pass(1), 4);
        KIT.due("the request takes a number of this hour", x.running(), 0b10001);
        KIT.due("its tenant", x.tenantOf(0), 1);
        KIT.due("price of the regular one", x.spotPrice(0), 20);
        KIT.due("several hours are counted together", x.bid(0, 0, 25), 1);
        KIT.due("bid", x.bid(0, 0, 24), 2);
        KIT.due("pass", x.pass(10), 0);
        KIT.due("at 30 nothing was granted", x.waiting(), 2);
        KIT.due("stop", x.stop(4), 0);
        KIT.due("stop", x.stop(0), 0);
        // Both come in the first hour and go in the third; then nothing waits.
        KIT.due("two are evicted", x.pass(4), 2);
        KIT.due("none run", x.running(), 0);
        KIT.due("none wait", x.waiting(), 0);
    }

    private static void passOrder() {
        // Eviction comes before the prices: the price falls in the hour of the eviction.
        CloudMarket x = KIT.market("host 4 9;type 1 1 100;type 2 1 100;tenant 99;notice 1;");
        KIT.due("bid", x.bid(0, 1, 60), 1);
        KIT.due("pass", x.pass(1), 0);
        KIT.due("launch", x.launch(0, 0), 1);
        KIT.due("pass", x.pass(1), 0);
        KIT.due("three of four", x.spotPrice(0), 95);
        KIT.due("notice", x.noticeOf(0), 3);
        KIT.due("pass", x.pass(1), 1);
        KIT.due("one of four", x.spotPrice(0), 45);
        // The bill of an hour comes before all else: it is at the old price, with the evicted ones.
        KIT.due("spent", x.spent(0), 0 + (20 + 100) + (95 + 100));
        // A notice is lost in step 4 even if it was for a later hour.
        CloudMarket y = KIT.market("host 4 9;type 1 1 100;tenant 99;notice 2;");
        KIT.due("bid", y.bid(0, 0, 60), 1);
        KIT.due("pass", y.pass(1), 0);
        KIT.due("evict", y.evict(0), 3);
        KIT.due("pass", y.pass(1), 0);
        KIT.due("lost", y.noticeOf(0), -1);
        // But it stays if the bid is too low at that time.
        KIT.due("evict", y.evict(0), 4);
        KIT.due("launch", y.launch(0, 0), 1);
        KIT.due("pass", y.pass(1), 0);
        KIT.due("price", y.spotPrice(0), 70);
        KIT.due("stays as it was", y.noticeOf(0), 4);
        KIT.due("pass", y.pass(1), 1);
    }

    private static void passGrants() {
        CloudMarket x = KIT.market("host 4 9;host 2 2;type 1 1 100;type 3 3 100;type 4 4 100;tenant 99;tenant 0;");
        KIT.due("bid", x.bid(0, 0, 19), 1);
        KIT.due("bid", x.bid(0, 1, 50), 2);
        KIT.due("bid", x.bid(0, 2, 60), 3);
        KIT.due("bid", x.bid(0, 0, 20), 4);
        KIT.due("bid", x.bid(1, 0, 20), 5);
        KIT.due("pass", x.pass(1), 0);
        // 60 takes the large host; 50 finds none; both of 20 take the small host; 19 is too low.
        KIT.due("running", x.running(), 7);
        KIT.due("first", x.typeOf(0), 2);
        KIT.due("host", x.hostOf(0), 0);
        KIT.due("second", x.tenantOf(1), 0);
        KIT.due("third", x.tenantOf(2), 1);
        KIT.due("host", x.hostOf(2), 1);
        KIT.due("two wait", x.waiting(), 2);
        KIT.due("50", x.waitingBid(0), 50);
        KIT.due("19", x.waitingBid(1), 19);
        // Equal bids are granted in the order in which they were made.
        CloudMarket y = KIT.market("host 1 9;type 1 1 100;tenant 99;tenant 99;tenant 99;");
        KIT.due("bid", y.bid(2, 0, 50), 1);
        KIT.due("bid", y.bid(0, 0, 50), 2);
        KIT.due("bid", y.bid(1, 0, 50), 3);
        KIT.due("pass", y.pass(1), 0);
        KIT.due("the first", y.tenantOf(0), 2);
        KIT.due("stop", y.stop(0), 0);
        KIT.due("bid", y.bid(2, 0, 50), 3);
        KIT.due("pass", y.pass(1), 0);
        KIT.due("the second", y.tenantOf(0), 0);
        // Requests of a tenant who is over budget are granted all the same.
        CloudMarket z = KIT.market("host 4 9;type 1 1 100;tenant 0;");
        KIT.due("launch", z.launch(0, 0), 0);
        KIT.due("bid", z.bid(0, 0, 99), 1);
        KIT.due("pass", z.pass(1), 0);
        KIT.due("over", z.isOverBudget(0), true);
        KIT.due("granted", z.bidOf(1), 99);
    }

    private static void passTwelve() {
        CloudMarket x = KIT.market("host 64 64;type 1 1 100;tenant 99;floor 1;slope 0;");
        for (int k = 0; k < 11; k++) {
            KIT.due("launch", x.launch(0, 0), k);
        }
        KIT.due("bid", x.bid(0, 0, 5), 1);
        KIT.due("bid", x.bid(0, 0, 6), 2);
        KIT.due("pass", x.pass(1), 0);
        KIT.due("the dearer one runs", x.bidOf(11), 6);
        KIT.due("the other waits", x.waitingBid(0), 5);
        KIT.due("stop", x.stop(4), 0);
        KIT.due("pass", x.pass(1), 0);
        KIT.due("in the free place", x.bidOf(4), 5);
    }

    private static void launch() {
        CloudMarket x = KIT.market("host 4 4;host 3 3;type 1 1 100;type 4 1 100;type 1 5 1;tenant 1;tenant 0;");
        KIT.due("on the best host", x.launch(0, 0), 0);
        KIT.due("host", x.hostOf(0), 1);
        KIT.due("next", x.launch(1, 1), 1);
        KIT.due("host", x.hostOf(1), 0);
        KIT.state("too much cpu", () -> x.launch(0, 1));
        KIT.state("too much memory", () -> x.launch(0, 2));
        KIT.index("tenant", () -> x.launch(2, 0));
        KIT.index("tenant", () -> x.launch(-1, 0));
        KIT.index("type", () -> x.launch(0, 3));
        KIT.index("type", () -> x.launch(0, -1));
        KIT.due("pass", x.pass(1), 0);
        KIT.state("over budget", () -> x.launch(1, 0));
        KIT.index("index first", () -> x.launch(1, 3));
        KIT.due("the other may", x.launch(0, 0), 2);
        KIT.due("pass", x.pass(1), 0);
        KIT.state("over budget", () -> x.launch(0, 0));
        CloudMarket y = KIT.market("type 1 1 1;tenant 9;");
        KIT.state("no hosts", () -> y.launch(0, 0));
    }

    private static void bid() {
        CloudMarket x = KIT.market("host 4 4;type 1 1 100;tenant 1;tenant 0;");
        KIT.due("least", x.bid(0, 0, 1), 1);
        KIT.due("most", x.bid(0, 0, 9999), 2);
        KIT.argument("too low", () -> x.bid(0, 0, 0));
        KIT.argument("too high", () -> x.bid(0, 0, 10000));
        KIT.argument("negative", () -> x.bid(0, 0, -5));
        KIT.index("tenant first", () -> x.bid(2, 0, 0));
        KIT.index("tenant", () -> x.bid(-1, 0, 1));
        KIT.index("type first", () -> x.bid(0, 1, 0));
        KIT.index("type", () -> x.bid(0, -1, 1));
        KIT.due("it waits", x.running(), 0);
        for (int k = 3; k <= 10; k++) {
            KIT.due("bid", x.bid(1, 0, 7), k);
        }
        KIT.state("an eleventh", () -> x.bid(0, 0, 7));
        KIT.argument("argument second", () -> x.bid(0, 0, 0));
        KIT.index("index first", () -> x.bid(0, 9, 7));
        KIT.due("withdraw", x.withdraw(1), 8);
        KIT.due("launch", x.launch(1, 0), 0);
        KIT.due("pass", x.pass(1), 0);
        KIT.state("over budget", () -> x.bid(1, 0, 7));
        KIT.argument("argument second", () -> x.bid(1, 0, 0));
        KIT.index("index first", () -> x.bid(1, 1, 7));
        KIT.due("another may", x.bid(0, 0, 7), 2);
        CloudMarket y = KIT.market("type 1 1 100;tenant 1;");
        KIT.due("also without hosts", y.bid(0, 0, 7), 1);
        KIT.due("pass", y.pass(9), 0);
        KIT.due("waits", y.waiting(), 1);
    }

    private static void withdraw() {
        CloudMarket x = KIT.market("host 4 4;type 1 1 100;tenant 1;tenant 0;");
        KIT.due("none", x.withdraw(0), 0);
        KIT.due("a change also if there are none", x.undo(), 0);
        KIT.due("bid", x.bid(0, 0, 10), 1);
        KIT.due("bid", x.bid(1, 0, 10), 2);
        KIT.due("bid", x.bid(0, 0, 20), 3);
        KIT.due("bid", x.bid(1, 0, 5), 4);
        KIT.due("two", x.withdraw(0), 2);
        KIT.due("rest", x.waiting(), 2);
        KIT.due("rest", x.waitingBid(0), 10);
        KIT.due("rest", x.waitingBid(1), 5);
        KIT.due("none", x.withdraw(0), 0);
        KIT.due("two", x.withdraw(1), 2);
        KIT.due("none", x.waiting(), 0);
        KIT.index("tenant", () -> x.withdraw(2));
        KIT.index("tenant", () -> x.withdraw(-1));
        KIT.due("bid", x.bid(0, 0, 99), 1);
        KIT.due("pass", x.pass(1), 0);
        KIT.due("not the running ones", x.withdraw(0), 0);
        KIT.due("running", x.running(), 1);
    }

    private static void stop() {
        CloudMarket x = KIT.market("host 2 2;host 8 8;type 2 1 100;tenant 9;");
        KIT.due("launch", x.launch(0, 0), 0);
        KIT.due("launch", x.launch(0, 0), 1);
        KIT.due("its host", x.stop(1), 1);
        KIT.due("running", x.running(), 1);
        KIT.due("free", x.free(1, false), 8);
        KIT.due("free", x.free(1, true), 8);
        KIT.due("its host", x.stop(0), 0);
        KIT.index("no more", () -> x.stop(0));
        KIT.index("beyond", () -> x.stop(12));
        KIT.index("negative", () -> x.stop(-1));
        KIT.due("bid", x.bid(0, 0, 99), 1);
        KIT.due("pass", x.pass(1), 0);
        KIT.due("evict", x.evict(0), 3);
        KIT.due("a spot instance with a notice", x.stop(0), 0);
        KIT.due("launch", x.launch(0, 0), 0);
        KIT.due("nothing is left of it", x.noticeOf(0), -1);
        KIT.due("pass", x.pass(9), 0);
        KIT.due("still there", x.running(), 1);
    }

    private static void evict() {
        CloudMarket x = KIT.market("host 4 4;type 1 1 100;tenant 9;notice 5;");
        KIT.due("launch", x.launch(0, 0), 0);
        KIT.due("bid", x.bid(0, 0, 99), 1);
        KIT.due("pass", x.pass(1), 0);
        KIT.state("a regular one", () -> x.evict(0));
        KIT.index("none", () -> x.evict(2));
        KIT.index("none", () -> x.evict(-1));
        KIT.due("hour", x.evict(1), 6);
        KIT.due("notice", x.noticeOf(1), 6);
        KIT.state("a second time", () -> x.evict(1));
        KIT.due("pass", x.pass(1), 0);
        KIT.due("lost", x.noticeOf(1), -1);
        KIT.due("again", x.evict(1), 7);
        CloudMarket y = KIT.market("host 4 4;type 1 1 100;tenant 9;notice 0;");
        KIT.due("bid", y.bid(0, 0, 99), 1);
        KIT.due("pass", y.pass(3), 0);
        KIT.due("for the clock itself", y.evict(0), 3);
        KIT.due("still runs", y.running(), 1);
        KIT.due("evicted with the next hour", y.pass(1), 1);
        KIT.due("runs no more", y.running(), 0);
    }

    private static void migrate() {
        CloudMarket x = KIT.market("host 3 3;host 4 4;host 4 2;type 2 2 100;type 1 3 100;tenant 9;tenant 9;"
            + "move memory*10+age;");
        KIT.due("launch", x.launch(0, 0), 0);
        KIT.due("launch", x.launch(1, 0), 1);
        KIT.due("host", x.hostOf(0), 0);
        KIT.due("host", x.hostOf(1), 2);
        KIT.state("already there", () -> x.migrate(0, 0));
        KIT.state("does not fit", () -> x.migrate(0, 2));
        KIT.index("instance", () -> x.migrate(2, 0));
        KIT.index("instance", () -> x.migrate(-1, 0));
        KIT.index("host", () -> x.migrate(0, 3));
        KIT.index("host", () -> x.migrate(0, -1));
        KIT.due("pass", x.pass(2), 0);
        KIT.due("cost", x.migrate(1, 1), 22);
        KIT.due("its tenant pays", x.spent(1), 222);
        KIT.due("not another", x.spent(0), 200);
        KIT.due("host", x.hostOf(1), 1);
        KIT.due("exactly full", x.migrate(0, 1), 22);
        KIT.due("free", x.free(1, true), 0);
        KIT.due("pass", x.pass(1), 0);
        KIT.due("it keeps its age", x.migrate(0, 0), 23);
        KIT.due("stop", x.stop(1), 1);
        KIT.due("launch", x.launch(0, 1), 1);
        KIT.state("cpu would fit, memory not", () -> x.migrate(1, 2));
        // A spot instance keeps its bid and notice, and a tenant over budget may migrate.
        CloudMarket y = KIT.market("host 2 2;host 9 9;type 1 1 100;tenant 0;move 5-age*5;");
        KIT.due("bid", y.bid(0, 0, 99), 1);
        KIT.due("pass", y.pass(1), 0);
        KIT.due("evict", y.evict(0), 3);
        KIT.due("cost", y.migrate(0, 1), 5);
        KIT.due("bid", y.bidOf(0), 99);
        KIT.due("notice", y.noticeOf(0), 3);
        KIT.due("over", y.isOverBudget(0), true);
        KIT.due("pass", y.pass(2), 0);
        KIT.due("at least 0", y.migrate(0, 0), 0);
        KIT.due("spent", y.spent(0), 5 + 20 + 29);
    }

    private static void drain() {
        CloudMarket x = KIT.market("host 4 6;host 3 9;host 9 3;type 2 1 100;type 1 2 100;tenant 9;tenant 9;"
            + "move memory*10+age;");
        KIT.due("launch", x.launch(0, 0), 0);
        KIT.due("launch", x.launch(1, 1), 1);
        KIT.due("launch", x.launch(1, 1), 2);
        KIT.due("pass", x.pass(1), 0);
        KIT.due("three", x.drain(0), 3);
        KIT.due("host", x.hostOf(0), 1);
        KIT.due("host", x.hostOf(1), 1);
        KIT.due("host", x.hostOf(2), 2);
        KIT.due("free", x.free(0, false), 4);
        KIT.due("free", x.free(0, true), 6);
        KIT.due("free", x.free(1, false), 0);
        KIT.due("free", x.free(1, true), 6);
        KIT.due("free", x.free(2, false), 8);
        KIT.due("spent", x.spent(0), 100 + 11);
        KIT.due("spent", x.spent(1), 200 + 21 + 21);
        KIT.state("no instances", () -> x.drain(0));
        KIT.index("host", () -> x.drain(3));
        KIT.index("host", () -> x.drain(-1));
        KIT.due("one change", x.undo(), 4);
        KIT.due("back", x.instancesOn(0), 7);
        KIT.due("spent", x.spent(1), 200);
    }

    private static void drainLimits() {
        CloudMarket x = KIT.market("host 9 9;host 9 10;type 1 1 1;type 5 5 1;tenant 99;");
        for (int k = 0; k < 6; k++) {
            KIT.due("launch", x.launch(0, 0), k);
        }
        KIT.state("six", () -> x.drain(0));
        KIT.due("stop", x.stop(0), 0);
        KIT.due("five", x.drain(0), 5);
        KIT.due("on", x.instancesOn(1), 0b111110);
        KIT.due("launch", x.launch(0, 1), 0);
        KIT.due("host", x.hostOf(0), 0);
        KIT.state("too large", () -> x.drain(0));
        KIT.state("no room", () -> x.drain(1));
        CloudMarket y = KIT.market("host 9 9;type 1 1 1;tenant 99;");
        KIT.state("nothing to drain", () -> y.drain(0));
        KIT.due("launch", y.launch(0, 0), 0);
        KIT.state("no other host", () -> y.drain(0));
    }

    private static void failuresChangeNothing() {
        CloudMarket x = KIT.market("host 4 4;host 2 2;type 2 2 100;tenant 9;tenant 0;");
        KIT.due("launch", x.launch(1, 0), 0);
        KIT.due("pass", x.pass(1), 0);
        KIT.state("launch", () -> x.launch(1, 0));
        KIT.index("launch", () -> x.launch(9, 0));
        KIT.state("bid", () -> x.bid(1, 0, 5));
        KIT.argument("bid", () -> x.bid(0, 0, 0));
        KIT.index("withdraw", () -> x.withdraw(9));
        KIT.index("stop", () -> x.stop(9));
        KIT.state("evict", () -> x.evict(0));
        KIT.state("migrate", () -> x.migrate(0, 1));
        KIT.state("drain", () -> x.drain(0));
        KIT.argument("pass", () -> x.pass(0));
        KIT.due("running", x.running(), 1);
        KIT.due("waiting", x.waiting(), 0);
        KIT.due("clock", x.clock(), 1);
        KIT.due("undo", x.undo(), 1);
        KIT.due("undo", x.undo(), 0);
        KIT.due("undo", x.undo(), -1);
    }
}
