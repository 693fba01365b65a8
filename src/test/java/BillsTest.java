/** Promises 21 to 25: spent, hourlyBill, covered, isOverBudget, pays. */
public final class BillsTest {
    private static final Kit KIT = new Kit("BillsTest");

    public static void main(String[] args) {
        regular();
        spot();
        reservations();
        reservationHours();
        covered();
        overBudget();
        pays();
        paysRounding();
        wrongNumbers();
        KIT.end();
    }

    private static void regular() {
        CloudMarket x = KIT.market("host 64 64;type 1 1 10;type 1 1 300;tenant 99;tenant 99;");
        KIT.due("nothing", x.hourlyBill(0), 0);
        KIT.due("launch", x.launch(0, 0), 0);
        KIT.due("launch", x.launch(0, 1), 1);
        KIT.due("launch", x.launch(1, 1), 2);
        KIT.due("bill", x.hourlyBill(0), 310);
        KIT.due("bill", x.hourlyBill(1), 300);
        KIT.due("not spent yet", x.spent(0), 0);
        KIT.due("pass", x.pass(1), 0);
        KIT.due("spent", x.spent(0), 310);
        KIT.due("spent", x.spent(1), 300);
        KIT.due("stop", x.stop(1), 0);
        KIT.due("bill", x.hourlyBill(0), 10);
        KIT.due("stopping costs nothing", x.spent(0), 310);
        KIT.due("pass", x.pass(10), 0);
        KIT.due("spent", x.spent(0), 410);
        KIT.due("spent", x.spent(1), 3300);
        KIT.due("migrations are in it", x.migrationCost(0), 1);
    }

    private static void spot() {
        CloudMarket x = KIT.market("host 4 9;type 1 1 100;tenant 99;tenant 99;notice 0;");
        KIT.due("bid", x.bid(0, 0, 90), 1);
        KIT.due("waiting costs nothing", x.hourlyBill(0), 0);
        KIT.due("pass", x.pass(1), 0);
        KIT.due("spent", x.spent(0), 0);
        KIT.due("the spot price that is set", x.hourlyBill(0), 20);
        KIT.due("launch", x.launch(1, 0), 1);
        KIT.due("launch", x.launch(1, 0), 2);
        KIT.due("not the present load", x.hourlyBill(0), 20);
        KIT.due("pass", x.pass(1), 0);
        KIT.due("spent", x.spent(0), 20);
        KIT.due("spent", x.spent(1), 200);
        KIT.due("spot price at 75", x.hourlyBill(0), 95);
        KIT.due("notice 0: evicted in the next hour", x.pass(1), 1);
        KIT.due("the bill comes before the eviction", x.spent(0), 115);
        KIT.due("then nothing", x.hourlyBill(0), 0);
    }

    private static void reservations() {
        CloudMarket x = KIT.market("host 64 64;type 1 1 99;type 1 1 50;tenant 99;tenant 99;"
            + "reserve 0 0 2 0 10 33;reserve 0 0 1 0 10 0;reserve 0 1 3 0 10 100;reserve 1 0 1 0 10 50;");
        // 99 * 67 / 100 is 66; 99; 0.
        KIT.due("unused reservations are paid", x.hourlyBill(0), 2 * 66 + 99);
        KIT.due("another tenant's", x.hourlyBill(1), 49);
        for (int k = 0; k < 3; k++) {
            KIT.due("launch", x.launch(0, 0), k);
        }
        KIT.due("covered ones cost nothing more", x.hourlyBill(0), 231);
        KIT.due("launch", x.launch(0, 0), 3);
        KIT.due("launch", x.launch(0, 0), 4);
        KIT.due("the others cost the price", x.hourlyBill(0), 231 + 2 * 99);
        KIT.due("launch", x.launch(0, 1), 5);
        KIT.due("each type by itself", x.hourlyBill(0), 231 + 2 * 99);
        KIT.due("launch", x.launch(1, 1), 6);
        KIT.due("each tenant by itself", x.hourlyBill(1), 49 + 50);
        KIT.due("bid", x.bid(1, 0, 99), 1);
        KIT.due("pass", x.pass(1), 0);
        KIT.due("spot instances are not covered", x.hourlyBill(1), 49 + 50 + x.spotPrice(0));
        KIT.due("covered", x.covered(1, 0), 0);
        KIT.due("spent", x.spent(0), 231 + 2 * 99);
    }

    private static void reservationHours() {
        CloudMarket x = KIT.market("host 64 64;type 1 1 100;tenant 99;reserve 0 0 1 2 4 10;");
        KIT.due("launch", x.launch(0, 0), 0);
        int[] bills = {100, 100, 90, 90, 100, 100};
        int sum = 0;
        for (int hour = 0; hour < bills.length; hour++) {
            KIT.due("bill at " + hour, x.hourlyBill(0), bills[hour]);
            KIT.due("covered at " + hour, x.covered(0, 0), bills[hour] == 90 ? 1 : 0);
            KIT.due("pays at " + hour, x.pays(0), bills[hour] == 90);
            KIT.due("pass", x.pass(1), 0);
            sum += bills[hour];
            KIT.due("spent", x.spent(0), sum);
        }
    }

    private static void covered() {
        CloudMarket x = KIT.market("host 64 64;type 1 1 100;type 1 1 9;tenant 99;tenant 99;"
            + "reserve 0 0 1 0 5 10;reserve 0 0 2 1 5 10;reserve 1 1 9 0 9999 10;");
        KIT.due("none run", x.covered(0, 0), 0);
        for (int k = 0; k < 4; k++) {
            KIT.due("launch", x.launch(0, 0), k);
        }
        KIT.due("one is active", x.covered(0, 0), 1);
        KIT.due("pass", x.pass(1), 0);
        KIT.due("both are active", x.covered(0, 0), 3);
        KIT.due("stop", x.stop(1), 0);
        KIT.due("stop", x.stop(2), 0);
        KIT.due("fewer run", x.covered(0, 0), 2);
        KIT.due("no reservation", x.covered(0, 1), 0);
        KIT.due("no instances", x.covered(1, 1), 0);
        KIT.due("launch", x.launch(1, 1), 1);
        KIT.due("one", x.covered(1, 1), 1);
        KIT.due("launch", x.launch(1, 0), 2);
        KIT.due("another type", x.covered(1, 0), 0);
        KIT.due("pass", x.pass(4), 0);
        KIT.due("ended", x.covered(0, 0), 0);
    }

    private static void overBudget() {
        CloudMarket x = KIT.market("host 64 64;host 9 9;type 1 1 100;tenant 3;tenant 0;move 1;");
        KIT.due("nothing spent", x.isOverBudget(0), false);
        KIT.due("a budget of 0", x.isOverBudget(1), false);
        KIT.due("launch", x.launch(0, 0), 0);
        KIT.due("launch", x.launch(1, 0), 1);
        KIT.due("pass", x.pass(3), 0);
        KIT.due("as much as the budget", x.spent(0), 300);
        KIT.due("not over", x.isOverBudget(0), false);
        KIT.due("over", x.isOverBudget(1), true);
        KIT.due("launch", x.launch(0, 0), 2);
        KIT.due("migrate", x.migrate(0, 0), 1);
        KIT.due("over by one", x.spent(0), 301);
        KIT.due("over", x.isOverBudget(0), true);
        KIT.state("launch", () -> x.launch(0, 0));
        KIT.due("others pay on", x.pass(1), 0);
        KIT.due("spent", x.spent(0), 501);
        KIT.due("undo", x.undo(), 5);
        KIT.due("undo", x.undo(), 4);
        KIT.due("not over again", x.isOverBudget(0), false);
    }

    private static void pays() {
        CloudMarket x = KIT.market("host 64 64;type 1 1 100;tenant 99;tenant 99;"
            + "reserve 0 0 4 0 5 50;reserve 0 0 1 0 5 0;reserve 0 0 1 0 5 1;reserve 0 0 9 0 5 100;");
        KIT.due("no instance", x.pays(0), false);
        KIT.due("free of charge, but covers none", x.pays(3), false);
        KIT.due("launch", x.launch(0, 0), 0);
        KIT.due("200 for 100", x.pays(0), false);
        KIT.due("100 for 100", x.pays(1), false);
        KIT.due("99 for 100", x.pays(2), true);
        KIT.due("0 for 100", x.pays(3), true);
        KIT.due("launch", x.launch(0, 0), 1);
        KIT.due("200 for 200", x.pays(0), false);
        KIT.due("99 for 100", x.pays(2), true);
        KIT.due("launch of another tenant", x.launch(1, 0), 2);
        KIT.due("200 for 200", x.pays(0), false);
        KIT.due("launch", x.launch(0, 0), 3);
        KIT.due("200 for 300", x.pays(0), true);
        KIT.due("100 for 100 of three", x.pays(1), false);
        KIT.due("pass", x.pass(5), 0);
        KIT.due("not active", x.pays(0), false);
        KIT.due("not active", x.pays(3), false);
    }

    private static void paysRounding() {
        CloudMarket x = KIT.market("host 64 64;type 1 1 1;type 1 1 9999;tenant 9999;reserve 0 0 9 0 9 1;"
            + "reserve 0 1 9 0 9 0;reserve 0 1 9 0 9 1;");
        KIT.due("launch", x.launch(0, 0), 0);
        KIT.due("the quotient is rounded before the product", x.pays(0), true);
        KIT.due("bill", x.hourlyBill(0), 9 * 9999 + 9 * 9899);
        for (int k = 1; k < 10; k++) {
            KIT.due("launch", x.launch(0, 1), k);
        }
        KIT.due("equal", x.pays(1), false);
        KIT.due("less", x.pays(2), true);
    }

    private static void wrongNumbers() {
        CloudMarket x = KIT.market("host 1 1;type 1 1 1;type 1 1 1;tenant 1;reserve 0 0 1 0 1 1;");
        int[] wrong = {1, 6, -1, Integer.MAX_VALUE, Integer.MIN_VALUE};
        for (int k : wrong) {
            KIT.index("spent of " + k, () -> x.spent(k));
            KIT.index("hourlyBill of " + k, () -> x.hourlyBill(k));
            KIT.index("isOverBudget of " + k, () -> x.isOverBudget(k) ? 1 : 0);
            KIT.index("pays of " + k, () -> x.pays(k) ? 1 : 0);
            KIT.index("covered of tenant " + k, () -> x.covered(k, 0));
            KIT.index("covered of type " + k, () -> x.covered(0, k == 1 ? 2 : k));
        }
    }
}
