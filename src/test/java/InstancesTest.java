/** Promises 13 to 20: running, typeOf, tenantOf, hostOf, bidOf, noticeOf, waiting, waitingBid. */
public final class InstancesTest {
    private static final Kit KIT = new Kit("InstancesTest");

    public static void main(String[] args) {
        numbers();
        whatAnInstanceHas();
        notRunning();
        notices();
        waiting();
        KIT.end();
    }

    private static void numbers() {
        CloudMarket x = KIT.market("host 64 64;type 1 1 10;tenant 99;");
        KIT.due("none", x.running(), 0);
        for (int k = 0; k < 12; k++) {
            KIT.due("launch", x.launch(0, 0), k);
            KIT.due("running", x.running(), (1 << k + 1) - 1);
        }
        KIT.state("a thirteenth", () -> x.launch(0, 0));
        KIT.due("stop", x.stop(7), 0);
        KIT.due("stop", x.stop(3), 0);
        KIT.due("running", x.running(), 4095 - 128 - 8);
        KIT.due("the lowest free number", x.launch(0, 0), 3);
        KIT.due("the next", x.launch(0, 0), 7);
        KIT.due("running", x.running(), 4095);
    }

    private static void whatAnInstanceHas() {
        CloudMarket x = KIT.market("host 2 2;host 8 8;type 1 1 10;type 2 2 20;tenant 99;tenant 99;tenant 0;");
        KIT.due("launch", x.launch(1, 1), 0);
        KIT.due("launch", x.launch(0, 0), 1);
        KIT.due("bid", x.bid(1, 0, 77), 1);
        KIT.due("bid", x.bid(0, 1, 99), 2);
        KIT.due("pass", x.pass(1), 0);
        KIT.due("running", x.running(), 15);
        KIT.due("type", x.typeOf(0), 1);
        KIT.due("type", x.typeOf(1), 0);
        KIT.due("the dearer bid first", x.typeOf(2), 1);
        KIT.due("type", x.typeOf(3), 0);
        KIT.due("tenant", x.tenantOf(0), 1);
        KIT.due("tenant", x.tenantOf(1), 0);
        KIT.due("tenant", x.tenantOf(2), 0);
        KIT.due("tenant", x.tenantOf(3), 1);
        KIT.due("host", x.hostOf(0), 0);
        KIT.due("host", x.hostOf(1), 1);
        KIT.due("host", x.hostOf(2), 1);
        KIT.due("bid of a regular one", x.bidOf(0), -1);
        KIT.due("bid of a regular one", x.bidOf(1), -1);
        KIT.due("bid", x.bidOf(2), 99);
        KIT.due("bid", x.bidOf(3), 77);
        KIT.due("notice of a regular one", x.noticeOf(0), -1);
        KIT.due("notice of a new spot instance", x.noticeOf(2), -1);
        KIT.due("migrate", x.migrate(0, 1), 2);
        KIT.due("host", x.hostOf(0), 1);
        KIT.due("stop", x.stop(2), 1);
        KIT.due("launch in its place", x.launch(1, 0), 2);
        KIT.due("type", x.typeOf(2), 0);
        KIT.due("tenant", x.tenantOf(2), 1);
        KIT.due("no bid any more", x.bidOf(2), -1);
        KIT.due("host", x.hostOf(2), 0);
    }

    private static void notRunning() {
        CloudMarket x = KIT.market("host 2 2;type 1 1 10;tenant 99;");
        KIT.due("launch", x.launch(0, 0), 0);
        KIT.due("launch", x.launch(0, 0), 1);
        KIT.due("stop", x.stop(0), 0);
        int[] wrong = {0, 2, 11, 12, 31, 32, 33, 64, -1, -31, Integer.MAX_VALUE, Integer.MIN_VALUE};
        for (int k : wrong) {
            KIT.index("type of " + k, () -> x.typeOf(k));
            KIT.index("tenant of " + k, () -> x.tenantOf(k));
            KIT.index("host of " + k, () -> x.hostOf(k));
            KIT.index("bid of " + k, () -> x.bidOf(k));
            KIT.index("notice of " + k, () -> x.noticeOf(k));
        }
        KIT.due("type", x.typeOf(1), 0);
    }

    private static void notices() {
        CloudMarket x = KIT.market("host 4 9;type 1 1 100;tenant 99;notice 3;");
        KIT.due("bid", x.bid(0, 0, 44), 1);
        KIT.due("pass", x.pass(1), 0);
        KIT.due("none yet", x.noticeOf(0), -1);
        KIT.due("pass", x.pass(1), 0);
        KIT.due("price of one", x.spotPrice(0), 45);
        KIT.due("the bid is too low", x.noticeOf(0), 5);
        KIT.due("pass", x.pass(1), 0);
        KIT.due("the first notice stays", x.noticeOf(0), 5);
        KIT.due("a notice ends the instance", x.pass(2), 1);
        KIT.index("evicted", () -> x.noticeOf(0));
        KIT.due("new bid", x.bid(0, 0, 45), 1);
        KIT.due("pass", x.pass(2), 0);
        KIT.due("a bid as high as the price", x.noticeOf(0), -1);
        KIT.due("launch", x.launch(0, 0), 1);
        KIT.due("pass", x.pass(1), 0);
        KIT.due("price of two", x.spotPrice(0), 70);
        KIT.due("a notice", x.noticeOf(0), 11);
        KIT.due("not for a regular one", x.noticeOf(1), -1);
        KIT.due("stop", x.stop(1), 0);
        KIT.due("between hours it stays", x.noticeOf(0), 11);
        KIT.due("pass", x.pass(1), 0);
        KIT.due("the price has fallen", x.noticeOf(0), -1);
        KIT.due("evict", x.evict(0), 12);
        KIT.due("a notice by hand", x.noticeOf(0), 12);
    }

    private static void waiting() {
        CloudMarket x = KIT.market("host 4 9;type 1 1 100;type 9 9 100;tenant 99;tenant 99;");
        KIT.due("none", x.waiting(), 0);
        KIT.due("none", x.waitingBid(0), -1);
        int[] bids = {30, 50, 10, 50, 9999, 1, 30, 40, 30, 2};
        for (int k = 0; k < bids.length; k++) {
            KIT.due("bid", x.bid(k % 2, 1, bids[k]), k + 1);
        }
        KIT.due("ten", x.waiting(), 10);
        int[] sorted = {9999, 50, 50, 40, 30, 30, 30, 10, 2, 1};
        for (int k = 0; k < sorted.length; k++) {
            KIT.due("position " + k, x.waitingBid(k), sorted[k]);
        }
        KIT.due("beyond", x.waitingBid(10), -1);
        KIT.due("negative", x.waitingBid(-1), -1);
        KIT.due("most", x.waitingBid(Integer.MAX_VALUE), -1);
        KIT.due("least", x.waitingBid(Integer.MIN_VALUE), -1);
        KIT.due("pass", x.pass(1), 0);
        KIT.due("all still wait: the type fits no host", x.waiting(), 10);
        KIT.due("withdraw", x.withdraw(0), 5);
        int[] rest = {50, 50, 40, 2, 1};
        for (int k = 0; k < rest.length; k++) {
            KIT.due("position " + k, x.waitingBid(k), rest[k]);
        }
        KIT.due("beyond", x.waitingBid(5), -1);
        KIT.due("five", x.waiting(), 5);
    }
}
