/** Promises 7 to 12: free, instancesOn, utilisation, spotPrice, bestHost, room. */
public final class HostsTest {
    private static final Kit KIT = new Kit("HostsTest");

    public static void main(String[] args) {
        free();
        instancesOn();
        utilisation();
        spotPrice();
        spotPriceIsCapped();
        spotPriceStaysBetweenHours();
        bestHost();
        room();
        KIT.end();
    }

    private static void free() {
        CloudMarket x = KIT.market("host 8 20;host 4 30;type 2 7 10;type 3 1 10;tenant 99;");
        KIT.due("cpu", x.free(0, false), 8);
        KIT.due("memory", x.free(0, true), 20);
        KIT.due("cpu", x.free(1, false), 4);
        KIT.due("memory", x.free(1, true), 30);
        KIT.due("launch", x.launch(0, 0), 0);
        KIT.due("launch", x.launch(0, 1), 1);
        KIT.due("cpu", x.free(0, false), 3);
        KIT.due("memory", x.free(0, true), 12);
        KIT.due("stop", x.stop(0), 0);
        KIT.due("cpu", x.free(0, false), 5);
        KIT.due("memory", x.free(0, true), 19);
        KIT.due("migrate", x.migrate(1, 1), 1);
        KIT.due("cpu", x.free(0, false), 8);
        KIT.due("memory", x.free(0, true), 20);
        KIT.due("cpu", x.free(1, false), 1);
        KIT.due("memory", x.free(1, true), 29);
        KIT.index("beyond", () -> x.free(2, false));
        KIT.index("beyond", () -> x.free(8, true));
        KIT.index("negative", () -> x.free(-1, true));
        KIT.index("most", () -> x.free(Integer.MAX_VALUE, true));
        KIT.index("least", () -> x.free(Integer.MIN_VALUE, false));
    }

    private static void instancesOn() {
        CloudMarket x = KIT.market("host 2 2;host 3 3;type 1 1 10;tenant 99;");
        for (int k = 0; k < 5; k++) {
            KIT.due("launch", x.launch(0, 0), k);
        }
        KIT.due("first", x.instancesOn(0), 0b00011);
        KIT.due("second", x.instancesOn(1), 0b11100);
        KIT.due("stop", x.stop(3), 1);
        KIT.due("stop", x.stop(0), 0);
        KIT.due("first", x.instancesOn(0), 0b00010);
        KIT.due("second", x.instancesOn(1), 0b10100);
        KIT.due("migrate", x.migrate(4, 0), 1);
        KIT.due("first", x.instancesOn(0), 0b10010);
        KIT.index("beyond", () -> x.instancesOn(2));
        KIT.index("negative", () -> x.instancesOn(-1));
        CloudMarket y = KIT.market("host 64 64;type 1 1 10;tenant 99;");
        for (int k = 0; k < 12; k++) {
            KIT.due("launch", y.launch(0, 0), k);
        }
        KIT.due("all twelve", y.instancesOn(0), 4095);
    }

    private static void utilisation() {
        CloudMarket x = KIT.market("host 3 9;host 4 9;type 2 1 10;type 1 1 10;tenant 99;");
        KIT.dueDouble("empty", x.utilisation(), 0.0);
        KIT.due("launch", x.launch(0, 0), 0);
        KIT.dueDouble("two of seven", x.utilisation(), 2.0 / 7.0);
        KIT.due("launch", x.launch(0, 1), 1);
        KIT.dueDouble("three of seven", x.utilisation(), 3.0 / 7.0);
        KIT.due("launch", x.launch(0, 0), 2);
        KIT.due("launch", x.launch(0, 0), 3);
        KIT.dueDouble("full", x.utilisation(), 1.0);
        KIT.due("stop", x.stop(0), 0);
        KIT.dueDouble("at once", x.utilisation(), 5.0 / 7.0);
        KIT.dueDouble("no hosts", KIT.market("type 1 1 1;tenant 1;").utilisation(), 0.0);
        CloudMarket y = KIT.market("host 1 1;type 1 1 1;tenant 9;");
        KIT.due("launch", y.launch(0, 0), 0);
        KIT.dueDouble("one of one", y.utilisation(), 1.0);
    }

    private static void spotPrice() {
        CloudMarket x = KIT.market("host 7 99;type 1 1 999;type 2 1 55;tenant 99;floor 33;slope 150;");
        KIT.due("floor", x.spotPrice(0), 329);
        KIT.due("floor", x.spotPrice(1), 18);
        KIT.due("launch", x.launch(0, 0), 0);
        KIT.due("pass", x.pass(1), 0);
        // Use is 14, 150 * 14 / 100 is 21, so that 54 percent are paid: 539.46 and 29.7.
        KIT.due("with load", x.spotPrice(0), 539);
        KIT.due("with load", x.spotPrice(1), 29);
        KIT.index("beyond", () -> x.spotPrice(2));
        KIT.index("negative", () -> x.spotPrice(-1));
        // Use is 14, 7 * 14 / 100 is 0: the first quotient is rounded down before it is added.
        CloudMarket y = KIT.market("host 7 99;type 1 1 9999;tenant 99;floor 1;slope 7;");
        KIT.due("launch", y.launch(0, 0), 0);
        KIT.due("pass", y.pass(1), 0);
        KIT.due("rounded twice", y.spotPrice(0), 99);
        CloudMarket z = KIT.market("type 1 1 9999;");
        KIT.due("no hosts", z.spotPrice(0), 1999);
        KIT.due("pass", z.pass(5), 0);
        KIT.due("no hosts", z.spotPrice(0), 1999);
        CloudMarket w = KIT.market("host 64 64;host 36 64;type 9 1 9999;tenant 99;floor 1;slope 101;");
        for (int k = 0; k < 11; k++) {
            KIT.due("launch", w.launch(0, 0), k);
        }
        KIT.due("pass", w.pass(1), 0);
        // Use is 99, 101 * 99 / 100 is 99, so that the whole price is paid; with 98 of 100 it would be less.
        KIT.due("99 and 1 are 100", w.spotPrice(0), 9999);
        KIT.due("stop", w.stop(0) >= 0, true);
        KIT.due("pass", w.pass(1), 0);
        KIT.due("90 and 1 are 91", w.spotPrice(0), 9099);
    }

    private static void spotPriceIsCapped() {
        CloudMarket x = KIT.market("host 4 9;type 1 1 70;tenant 99;floor 100;slope 400;");
        KIT.due("floor of 100", x.spotPrice(0), 70);
        KIT.due("launch", x.launch(0, 0), 0);
        KIT.due("pass", x.pass(1), 0);
        KIT.due("never above the price", x.spotPrice(0), 70);
        CloudMarket y = KIT.market("host 4 9;type 1 1 70;tenant 99;floor 1;slope 400;");
        KIT.due("floor of 1", y.spotPrice(0), 0);
        KIT.due("launch", y.launch(0, 0), 0);
        KIT.due("pass", y.pass(1), 0);
        KIT.due("just above", y.spotPrice(0), 70);
        CloudMarket z = KIT.market("host 4 9;type 1 1 70;tenant 99;floor 1;slope 396;");
        KIT.due("launch", z.launch(0, 0), 0);
        KIT.due("pass", z.pass(1), 0);
        KIT.due("just the price", z.spotPrice(0), 70);
    }

    private static void spotPriceStaysBetweenHours() {
        CloudMarket x = KIT.market("host 4 9;type 1 1 100;tenant 99;");
        KIT.due("launch", x.launch(0, 0), 0);
        KIT.due("launch", x.launch(0, 0), 1);
        KIT.due("not at once", x.spotPrice(0), 20);
        KIT.due("pass", x.pass(1), 0);
        KIT.due("with the hour", x.spotPrice(0), 70);
        KIT.due("stop", x.stop(0), 0);
        KIT.due("not at once", x.spotPrice(0), 70);
        KIT.due("bid", x.bid(0, 0, 99), 1);
        KIT.due("pass", x.pass(1), 0);
        // The request becomes an instance only after the prices are set.
        KIT.due("with the hour", x.spotPrice(0), 45);
        KIT.due("pass", x.pass(1), 0);
        KIT.due("with the next hour", x.spotPrice(0), 70);
    }

    private static void bestHost() {
        CloudMarket x = KIT.market("host 8 30;host 9 9;host 6 12;host 1 1;type 2 4 10;type 7 2 10;type 1 13 10;"
            + "type 9 10 10;type 1 1 1;tenant 99;");
        KIT.due("two of 18, the lowest", x.bestHost(0), 1);
        KIT.due("cpu rules out", x.bestHost(1), 1);
        KIT.due("memory rules out", x.bestHost(2), 0);
        KIT.due("none", x.bestHost(3), -1);
        KIT.due("exactly full", x.bestHost(4), 3);
        KIT.due("launch", x.launch(0, 0), 0);
        KIT.due("first again", x.bestHost(0), 1);
        KIT.due("migrate", x.migrate(0, 2), 4);
        KIT.due("now the other has less", x.bestHost(0), 2);
        KIT.due("launch", x.launch(0, 0), 1);
        KIT.due("launch", x.launch(0, 0), 2);
        KIT.due("full to the last of both", x.free(2, true), 0);
        KIT.due("full host", x.bestHost(0), 1);
        KIT.index("beyond", () -> x.bestHost(5));
        KIT.index("negative", () -> x.bestHost(-1));
    }

    private static void room() {
        CloudMarket x = KIT.market("host 8 16;host 5 40;type 2 4 10;type 3 1 10;type 6 17 10;type 1 1 1;tenant 99;");
        KIT.due("cpu limits the second", x.room(0), 6);
        KIT.due("cpu limits both", x.room(1), 3);
        KIT.due("none", x.room(2), 0);
        KIT.due("more than twelve", x.room(3), 13);
        KIT.due("launch", x.launch(0, 3), 0);
        KIT.due("after a launch", x.room(0), 5);
        KIT.due("after a launch", x.room(3), 12);
        CloudMarket y = KIT.market("host 64 64;type 1 1 1;tenant 99;");
        for (int k = 0; k < 12; k++) {
            KIT.due("launch", y.launch(0, 0), k);
        }
        KIT.due("regardless of the limit", y.room(0), 52);
        KIT.due("no hosts", KIT.market("type 1 1 1;").room(0), 0);
        KIT.index("beyond", () -> x.room(4));
        KIT.index("negative", () -> x.room(-1));
    }
}
