/** Situations that several tests begin with. Each call makes a new object in just the same situation. */
final class Scenes {
    private Scenes() {
    }

    private static CloudMarket market(String text) {
        CloudMarket x = new CloudMarket();
        if (Kit.parse(x, text) != 0) {
            throw new IllegalStateException("a wrong text: " + text);
        }
        return x;
    }

    /**
     * Hosts 0 to 2 with the instances 2 and 5, then 0, 1 and 3, then 4; 3 and 4 are spot instances, 3 has a notice.
     * Two requests wait, tenant 1 is over budget, type 2 fits no host, host 0 cannot be drained. Slot 0 holds a
     * snapshot, more than ten changes have been made, the last text was wrong, and the buffer holds 20 bytes.
     */
    static CloudMarket busy() {
        CloudMarket x = market("host 4 8;host 3 6;host 6 6;type 1 1 100;type 2 3 40;type 6 7 9;tenant 9;tenant 0;"
            + "tenant 50;reserve 0 0 2 0 50 30;reserve 2 1 1 3 9 5;notice 3;move memory*10+age;");
        x.launch(0, 0);
        x.launch(1, 0);
        x.launch(2, 1);
        x.bid(2, 0, 99);
        x.bid(0, 1, 39);
        x.bid(0, 0, 1);
        x.bid(2, 1, 2);
        x.pass(1);
        x.saveSnapshot(0);
        x.pass(1);
        x.withdraw(1);
        x.evict(3);
        x.migrate(4, 2);
        x.launch(0, 0);
        Kit.parse(x, "host 1 2;type ?");
        Kit.fill(x, "host 1 1;host 2 2;  ");
        return x;
    }

    /** Twelve instances on host 0, ten requests that wait; tenant 1 is over budget; slot 1 holds a snapshot. */
    static CloudMarket full() {
        CloudMarket x = market("host 64 64;host 64 64;type 1 1 100;type 2 2 100;tenant 9999;tenant 0;slope 0;");
        for (int k = 0; k < 11; k++) {
            x.launch(0, 0);
        }
        x.launch(1, 0);
        x.pass(1);
        for (int k = 0; k < 10; k++) {
            x.bid(0, 0, 1);
        }
        x.saveSnapshot(1);
        return x;
    }

    /** As late as the clock goes, with a regular and a spot instance. */
    static CloudMarket late() {
        CloudMarket x = market("host 4 4;host 4 4;type 1 1 100;tenant 9999;slope 0;");
        x.launch(0, 0);
        x.bid(0, 0, 99);
        x.pass(499);
        for (int k = 0; k < 19; k++) {
            x.pass(500);
        }
        return x;
    }

    /** No hosts, but types and tenants. */
    static CloudMarket bare() {
        return market("type 1 1 100;tenant 9;tenant 9;");
    }
}
