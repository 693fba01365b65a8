/** Promises 1 to 6: a new object, append, parse, errorPosition, hostCount, clock. */
public final class ParseTest {
    private static final Kit KIT = new Kit("ParseTest");

    public static void main(String[] args) {
        newObject();
        append();
        lengths();
        tokens();
        words();
        grammar();
        sums();
        twice();
        ranges();
        reservations();
        limits();
        brackets();
        firstError();
        errorChangesNothing();
        successStartsAnew();
        KIT.end();
    }

    private static void newObject() {
        CloudMarket x = new CloudMarket();
        KIT.due("NONE", CloudMarket.NONE, -1);
        KIT.due("hosts", x.hostCount(), 0);
        KIT.due("clock", x.clock(), 0);
        KIT.due("error", x.errorPosition(), -1);
        KIT.due("running", x.running(), 0);
        KIT.due("waiting", x.waiting(), 0);
        KIT.dueDouble("utilisation", x.utilisation(), 0.0);
        KIT.due("fewest", x.fewestHosts(), 0);
        KIT.index("free", () -> x.free(0, true));
        KIT.index("spotPrice", () -> x.spotPrice(0));
        KIT.index("spent", () -> x.spent(0));
        KIT.index("pays", () -> x.pays(0) ? 1 : 0);
        KIT.index("typeOf", () -> x.typeOf(0));
        KIT.due("undo", x.undo(), -1);
        KIT.state("restore", () -> x.restoreSnapshot(0));
        KIT.due("pass", x.pass(2), 0);
        KIT.due("clock", x.clock(), 2);
        KIT.argument("parse of an empty buffer", () -> x.parse(1));
        KIT.due("parse of nothing", x.parse(0), 0);
        KIT.due("clock", x.clock(), 0);
    }

    private static void append() {
        CloudMarket x = new CloudMarket();
        for (int k = 1; k <= 40; k++) {
            KIT.due("append " + k, x.append(0x20202020, 0x20202020, 0x20202020, 0x20202020, 0x20202020), 20 * k);
        }
        KIT.due("append 41", x.append(0, 0, 0, 0, 0), -1);
        KIT.due("append 42", x.append(0, 0, 0, 0, 0), -1);
        KIT.due("a full buffer of spaces", x.parse(800), 0);
        KIT.due("append after parse", x.append(-1, -1, -1, -1, -1), 20);
        KIT.due("bytes of 255", x.parse(20), 1);
        KIT.due("position", x.errorPosition(), 0);
        // The most significant byte comes first, and the arguments in their order.
        x.append(0x686F7374, 0x20312032, 0x3B747970, 0x65203120, 0x3220333B);
        KIT.due("host 1 2;type 1 2 3;", x.parse(20), 0);
        KIT.due("cpu", x.free(0, false), 1);
        KIT.due("memory", x.free(0, true), 2);
        KIT.due("spot", x.spotPrice(0), 0);
    }

    private static void lengths() {
        CloudMarket x = new CloudMarket();
        Kit.fill(x, "host 1 2;host 3 4;??");
        KIT.argument("too long", () -> x.parse(21));
        KIT.argument("negative", () -> x.parse(-1));
        KIT.argument("least", () -> x.parse(Integer.MIN_VALUE));
        KIT.argument("most", () -> x.parse(Integer.MAX_VALUE));
        KIT.due("the buffer stays", x.parse(18), 0);
        KIT.due("hosts", x.hostCount(), 2);
        KIT.argument("the buffer is emptied", () -> x.parse(1));
        Kit.fill(x, "host 1 2;host 3 4;??");
        KIT.due("the whole buffer", x.parse(20), 1);
        KIT.due("position", x.errorPosition(), 18);
        KIT.argument("a throw", () -> x.parse(1));
        KIT.due("position after a throw", x.errorPosition(), 18);
        Kit.fill(x, "host 1 2;host 3 4;??");
        KIT.due("a part", x.parse(9), 0);
        KIT.due("position after a success", x.errorPosition(), -1);
        KIT.due("hosts", x.hostCount(), 1);
        Kit.fill(x, "host 12 345;        ");
        KIT.due("a number that the length cuts", x.parse(10), 1);
        KIT.due("position", x.errorPosition(), 10);
    }

    private static void tokens() {
        KIT.due("tight", KIT.market("host1 2;type3 4 5;tenant6;").hostCount(), 1);
        KIT.due("wide", KIT.market("  \n host\n1\n2 ; \n\n").hostCount(), 1);
        KIT.due("zeros", KIT.market("host 0001 0002;").free(0, true), 2);
        KIT.error("host 00001 2;", 1, 5);
        KIT.error("host 1 12345;", 1, 7);
        KIT.error("host 1\t2;", 1, 6);
        KIT.error("host 1\r2;", 1, 6);
        KIT.error("Host 1 2;", 1, 0);
        KIT.error("hosts 1 2;", 1, 0);
        KIT.error("hos 1 2;", 1, 0);
        KIT.error("abcdefgh 1 2;", 1, 0);
        KIT.error("host 1 2; abcdefghi", 1, 10);
        KIT.error("host 1 2,", 1, 8);
        KIT.error("host 1 2;\u0000", 1, 9);
        KIT.error("host 1 2;\u00e9", 1, 9);
        KIT.error("host 1 2;`", 1, 9);
        KIT.error("host 1 2;{", 1, 9);
        KIT.error("host / 2;", 1, 5);
        KIT.error("host : 2;", 1, 5);
        KIT.error("move 1:2;", 1, 6);
        KIT.error("move 1.2;", 1, 6);
        KIT.error("move 1,2;", 1, 6);
        KIT.error("move pricess;", 1, 5);
    }

    /** No word counts with one letter changed, one letter more or one letter less. */
    private static void words() {
        String[] statements = {"host 1 1;", "type 1 1 1;", "tenant 1;", "reserve 0 0 1 0 1 0;", "floor 1;", "notice 1;",
            "slope 1;", "move 1;"};
        for (String right : statements) {
            String head = right.startsWith("reserve") ? "tenant 1;type 1 1 1;" : "";
            KIT.due("right: " + right, KIT.market(head + right).clock(), 0);
            spoil(head, right.substring(0, right.indexOf(' ')), right.substring(right.indexOf(' ')));
        }
        for (String name : new String[] {"cpu", "memory", "price", "age"}) {
            KIT.due("right: " + name, KIT.market("move " + name + ";").clock(), 0);
            spoil("move ", name, ";");
        }
    }

    private static void spoil(String head, String word, String tail) {
        for (int k = 0; k < word.length(); k++) {
            char other = word.charAt(k) == 'z' ? 'a' : (char) (word.charAt(k) + 1);
            KIT.error(head + word.substring(0, k) + other + word.substring(k + 1) + tail, 1, head.length());
            KIT.error(head + word.substring(0, k) + word.substring(k + 1) + tail, 1, head.length());
        }
        KIT.error(head + word + "z" + tail, 1, head.length());
        KIT.error(head + "a" + word + tail, 1, head.length());
    }

    private static void grammar() {
        KIT.due("empty statements are none", KIT.market("").hostCount(), 0);
        KIT.error(";", 1, 0);
        KIT.error("host 1 2;;", 1, 9);
        KIT.error("host", 1, 4);
        KIT.error("host  \n", 1, 7);
        KIT.error("host 1", 1, 6);
        KIT.error("host 1 2", 1, 8);
        KIT.error("host 1 2   ", 1, 11);
        KIT.error("host 1 2 3;", 1, 9);
        KIT.error("host 1;", 1, 6);
        KIT.error("host host 2;", 1, 5);
        KIT.error("host -1 2;", 1, 5);
        KIT.error("type 1 2;", 1, 8);
        KIT.error("type 1 2 3", 1, 10);
        KIT.error("tenant;", 1, 6);
        KIT.error("tenant 1 2;", 1, 9);
        KIT.error("floor;", 1, 5);
        KIT.error("floor (1);", 1, 6);
        KIT.error("notice x;", 1, 7);
        KIT.error("slope 1+1;", 1, 7);
        KIT.error("8 1 2;", 1, 0);
        KIT.error("(host 1 2);", 1, 0);
        KIT.error("cpu;", 1, 0);
        KIT.error("tenant 1;type 1 1 1;reserve 0 0 1 0 1;", 1, 37);
        KIT.error("tenant 1;type 1 1 1;reserve 0 0 1 0 1 2 3;", 1, 40);
        KIT.error("tenant 1;type 1 1 1;reserve 0 0 1 0 1 2", 1, 39);
    }

    private static void sums() {
        KIT.error("move;", 1, 4);
        KIT.error("move", 1, 4);
        KIT.error("move 1", 1, 6);
        KIT.error("move +1;", 1, 5);
        KIT.error("move -1;", 1, 5);
        KIT.error("move 1+;", 1, 7);
        KIT.error("move 1*;", 1, 7);
        KIT.error("move 1+*2;", 1, 7);
        KIT.error("move 1 2;", 1, 7);
        KIT.error("move ();", 1, 6);
        KIT.error("move (1;", 1, 7);
        KIT.error("move (1", 1, 7);
        KIT.error("move 1);", 1, 6);
        KIT.error("move (1));", 1, 8);
        KIT.error("move 1(2);", 1, 6);
        KIT.error("move host;", 1, 5);
        KIT.error("move cpus;", 1, 5);
        KIT.error("move ag;", 1, 5);
        KIT.error("move memory memory;", 1, 12);
        KIT.error("move 1+2*(3-4;", 1, 13);
        KIT.due("all signs", KIT.market("move((cpu+memory)*price-age/(1));").hostCount(), 0);
        KIT.due("largest number", KIT.market("move 9999*0000;").hostCount(), 0);
        KIT.error("move 10000;", 1, 5);
    }

    private static void twice() {
        KIT.error("floor 20;floor 20;", 2, 9);
        KIT.error("notice 2;host 1 2;notice 2;", 2, 18);
        KIT.error("slope 1; slope 1;", 2, 9);
        KIT.error("move 1; move 1;", 2, 8);
        KIT.error("floor 20;notice 1;slope 1;move 1;floor", 2, 33);
        KIT.error("move 1;floor 1;move (", 2, 15);
        KIT.due("each once", KIT.market("slope 1;move 1;notice 1;floor 1;").hostCount(), 0);
        CloudMarket x = KIT.market("floor 1;notice 1;slope 1;move 1;");
        KIT.due("again in the next text", Kit.parse(x, "floor 1;notice 1;slope 1;move 1;"), 0);
    }

    private static void ranges() {
        KIT.due("least", KIT.market("host 1 1;type 1 1 1;tenant 0;floor 1;notice 0;slope 0;").hostCount(), 1);
        KIT.due("most", KIT.market("host 64 256;type 64 256 9999;tenant 9999;floor 100;notice 48;slope 400;")
            .hostCount(), 1);
        KIT.error("host 0 1;", 3, 5);
        KIT.error("host 65 1;", 3, 5);
        KIT.error("host 1 0;", 3, 7);
        KIT.error("host 1 257;", 3, 7);
        KIT.error("type 0 1 1;", 3, 5);
        KIT.error("type 65 1 1;", 3, 5);
        KIT.error("type 1 0 1;", 3, 7);
        KIT.error("type 1 257 1;", 3, 7);
        KIT.error("type 1 1 0;", 3, 9);
        KIT.error("floor 0;", 3, 6);
        KIT.error("floor 101;", 3, 6);
        KIT.error("notice 49;", 3, 7);
        KIT.error("slope 401;", 3, 6);
    }

    private static void reservations() {
        String head = "tenant 1;tenant 1;type 1 1 1;";
        KIT.due("edges", KIT.market(head + "reserve 1 0 9 9998 9999 100;reserve 0 0 1 0 1 0;").hostCount(), 0);
        KIT.error("reserve 0 0 1 0 1 0;", 3, 8);
        KIT.error("type 1 1 1;reserve 0 0 1 0 1 0;tenant 1;", 3, 19);
        KIT.error("tenant 1;reserve 0 0 1 0 1 0;type 1 1 1;", 3, 19);
        KIT.error(head + "reserve 2 0 1 0 1 0;", 3, 37);
        KIT.error(head + "reserve 1 1 1 0 1 0;", 3, 39);
        KIT.error(head + "reserve 1 0 0 0 1 0;", 3, 41);
        KIT.error(head + "reserve 1 0 10 0 1 0;", 3, 41);
        KIT.error(head + "reserve 1 0 9 9999 9999 0;", 3, 43);
        KIT.error(head + "reserve 1 0 9 5 5 0;", 3, 45);
        KIT.error(head + "reserve 1 0 9 5 0 0;", 3, 45);
        KIT.error(head + "reserve 1 0 9 5 6 101;", 3, 47);
        KIT.error(head + "reserve 1 0 9 5 6 ;", 1, 47);
        // The start of an earlier reservation does not bear on a later one.
        KIT.due("ends", KIT.market(head + "reserve 1 0 1 50 60 0;reserve 1 0 1 5 6 0;").hostCount(), 0);
    }

    private static void limits() {
        String hosts = "host 1 1;".repeat(8);
        KIT.due("8 hosts", KIT.market(hosts).hostCount(), 8);
        KIT.error(hosts + "host 1 1;", 4, 72);
        KIT.error(hosts + "host", 4, 72);
        KIT.error(hosts + "hosts", 1, 72);
        String types = "type 1 1 1;".repeat(6);
        KIT.due("6 types", KIT.market(types).spotPrice(5), 0);
        KIT.error(types + " type x", 4, 67);
        String tenants = "tenant 1;".repeat(6);
        KIT.due("6 tenants", KIT.market(tenants).spent(5), 0);
        KIT.error(tenants + "tenant", 4, 54);
        String some = "tenant 1;type 1 1 1;" + "reserve 0 0 1 0 1 0;".repeat(8);
        KIT.due("8 reservations", KIT.market(some).pays(7), false);
        KIT.error(some + "reserve 9;", 4, 180);
        String all = hosts + types + tenants + "reserve 0 0 1 0 1 0;".repeat(8);
        KIT.due("all limits", KIT.market(all).hostCount(), 8);
    }

    private static void brackets() {
        KIT.due("five", KIT.market("move (((((1)))));").hostCount(), 0);
        KIT.error("move ((((((1))))));", 4, 10);
        KIT.error("move (((((1+(", 4, 12);
        KIT.error("move (((((1(", 1, 11);
        KIT.due("closed ones do not count", KIT.market("move (((((1)+(1)))))*(((((age)))));").hostCount(), 0);
    }

    private static void firstError() {
        KIT.error("host 0 0;?", 3, 5);
        KIT.error("host 1 1;floor 1;floor ?", 2, 17);
        KIT.error("host ? 0;", 1, 5);
        KIT.error("floor 101;floor 1;", 3, 6);
        KIT.error("host 99999 0;", 1, 5);
    }

    private static void errorChangesNothing() {
        CloudMarket x = KIT.market("host 4 4;type 1 1 100;tenant 9;floor 50;move 7;");
        KIT.due("launch", x.launch(0, 0), 0);
        KIT.due("bid", x.bid(0, 0, 10), 1);
        KIT.due("pass", x.pass(3), 0);
        KIT.due("save", x.saveSnapshot(1), false);
        KIT.due("a wrong text", Kit.parse(x, "host 9 9;host 9 9;move 3;floor 9;tenant 0;type 9 9 9;host 0"), 3);
        KIT.due("position", x.errorPosition(), 58);
        KIT.due("hosts", x.hostCount(), 1);
        KIT.due("clock", x.clock(), 3);
        KIT.due("free", x.free(0, false), 3);
        KIT.due("running", x.running(), 1);
        KIT.due("waiting", x.waiting(), 1);
        KIT.due("spent", x.spent(0), 300);
        KIT.due("cost", x.migrationCost(0), 7);
        KIT.due("price", x.priceAfter(0, 1), 75);
        KIT.due("restore", x.restoreSnapshot(1), 3);
        KIT.index("tenants", () -> x.spent(1));
        KIT.argument("the buffer is emptied", () -> x.parse(1));
    }

    private static void successStartsAnew() {
        CloudMarket x = KIT.market("host 4 4;host 1 1;type 1 1 100;type 1 1 1;tenant 9;tenant 1;floor 50;"
            + "slope 9;notice 9;move 7;reserve 0 0 1 0 9 9;");
        KIT.due("launch", x.launch(0, 0), 0);
        KIT.due("bid", x.bid(0, 0, 10), 1);
        KIT.due("pass", x.pass(3), 0);
        KIT.due("save", x.saveSnapshot(0), false);
        KIT.due("save", x.saveSnapshot(1), false);
        KIT.due("parse", Kit.parse(x, "host 8 9;type 2 5 100;tenant 9;"), 0);
        KIT.due("hosts", x.hostCount(), 1);
        KIT.due("clock", x.clock(), 0);
        KIT.due("running", x.running(), 0);
        KIT.due("waiting", x.waiting(), 0);
        KIT.due("waitingBid", x.waitingBid(0), -1);
        KIT.due("spent", x.spent(0), 0);
        KIT.due("free", x.free(0, false), 8);
        KIT.due("spot", x.spotPrice(0), 20);
        KIT.due("undo", x.undo(), -1);
        KIT.state("slot 0", () -> x.restoreSnapshot(0));
        KIT.state("slot 1", () -> x.restoreSnapshot(1));
        KIT.due("save", x.saveSnapshot(1), false);
        KIT.index("types", () -> x.spotPrice(1));
        KIT.index("tenants", () -> x.spent(1));
        KIT.index("reservations", () -> x.pays(0) ? 1 : 0);
        KIT.due("launch", x.launch(0, 0), 0);
        KIT.due("the sum is memory again", x.migrationCost(0), 5);
        KIT.due("slope is 100 again", x.priceAfter(0, 1), 45);
        KIT.due("bid", x.bid(0, 0, 45), 1);
        KIT.due("pass", x.pass(1), 0);
        // The hours of notice are 2 again.
        KIT.due("running", x.running(), 1);
        KIT.due("stop", x.stop(0), 0);
        KIT.due("pass", x.pass(1), 0);
        KIT.due("bidOf", x.bidOf(0), 45);
        KIT.due("evict", x.evict(0), 4);
    }
}
