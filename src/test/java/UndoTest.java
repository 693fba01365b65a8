/** Promises 40 to 42: undo, saveSnapshot, restoreSnapshot. */
public final class UndoTest {
    private static final Kit KIT = new Kit("UndoTest");
    private static final String TEXT = "host 4 4;host 5 5;type 1 1 100;type 2 2 50;tenant 9;tenant 9;move 3;";

    public static void main(String[] args) {
        eachChange();
        tenChanges();
        mixed();
        snapshots();
        slots();
        KIT.end();
    }

    private static void eachChange() {
        CloudMarket x = KIT.market(TEXT);
        Kit.Call[] calls = {
            () -> x.launch(0, 1), () -> x.bid(1, 0, 90), () -> x.bid(0, 1, 80), () -> x.pass(1),
            () -> x.evict(1), () -> x.migrate(0, 1), () -> x.withdraw(1), () -> x.drain(0), () -> x.stop(0),
            () -> x.pass(5)};
        String[] looks = new String[calls.length];
        for (int k = 0; k < calls.length; k++) {
            looks[k] = Look.brief(x);
            calls[k].answer();
        }
        for (int k = calls.length - 1; k >= 0; k--) {
            KIT.due("undo " + k, x.undo(), k);
            Look.same(KIT, "undone " + k, Look.brief(x), looks[k]);
        }
        KIT.due("none", x.undo(), -1);
        KIT.due("none", x.undo(), -1);
    }

    private static void tenChanges() {
        CloudMarket x = KIT.market(TEXT);
        for (int k = 0; k < 14; k++) {
            KIT.due("pass", x.pass(1), 0);
        }
        for (int k = 9; k >= 0; k--) {
            KIT.due("undo", x.undo(), k);
            KIT.due("clock", x.clock(), k + 4);
        }
        KIT.due("none", x.undo(), -1);
        KIT.due("clock", x.clock(), 4);
        KIT.due("pass", x.pass(10), 0);
        KIT.due("undo", x.undo(), 0);
        KIT.due("clock", x.clock(), 4);
    }

    private static void mixed() {
        CloudMarket x = KIT.market(TEXT);
        for (int k = 0; k < 12; k++) {
            KIT.due("pass", x.pass(1), 0);
        }
        KIT.due("undo", x.undo(), 9);
        KIT.due("undo", x.undo(), 8);
        KIT.due("pass", x.pass(100), 0);
        KIT.due("undo", x.undo(), 8);
        KIT.due("clock", x.clock(), 10);
        KIT.due("pass", x.pass(20), 0);
        KIT.due("pass", x.pass(20), 0);
        KIT.due("pass", x.pass(20), 0);
        KIT.due("clock", x.clock(), 70);
        KIT.due("undo", x.undo(), 9);
        KIT.due("undo", x.undo(), 8);
        KIT.due("undo", x.undo(), 7);
        KIT.due("clock", x.clock(), 10);
        for (int k = 6; k >= 0; k--) {
            KIT.due("undo", x.undo(), k);
        }
        KIT.due("clock", x.clock(), 3);
        KIT.due("none", x.undo(), -1);
        // Questions and snapshots are no changes.
        KIT.due("save", x.saveSnapshot(0), false);
        KIT.due("none", x.undo(), -1);
    }

    private static void snapshots() {
        CloudMarket x = KIT.market(TEXT);
        KIT.due("launch", x.launch(0, 1), 0);
        KIT.due("bid", x.bid(1, 0, 90), 1);
        KIT.due("bid", x.bid(1, 1, 20), 2);
        KIT.due("pass", x.pass(1), 0);
        KIT.due("evict", x.evict(1), 3);
        String first = Look.of(x);
        KIT.due("save", x.saveSnapshot(1), false);
        KIT.due("saving keeps the history", x.undo(), 4);
        KIT.due("pass", x.pass(7), 0);
        KIT.due("stop", x.stop(0), 0);
        String second = Look.of(x);
        KIT.due("save", x.saveSnapshot(0), false);
        KIT.due("withdraw", x.withdraw(1), 1);
        KIT.due("restore", x.restoreSnapshot(1), 1);
        Look.same(KIT, "the first", Look.of(x), first);
        KIT.due("the history is cleared", x.undo(), -1);
        KIT.due("launch", x.launch(1, 1), 2);
        KIT.due("pass", x.pass(2), 0);
        KIT.due("restore", x.restoreSnapshot(0), 8);
        Look.same(KIT, "the second", Look.of(x), second);
        // The request for 20 is granted in the first hour and evicted in the fourth.
        KIT.due("pass", x.pass(20), 1);
        KIT.due("it stays stored", x.restoreSnapshot(1), 1);
        Look.same(KIT, "the first again", Look.of(x), first);
        KIT.due("save again", x.saveSnapshot(0), true);
        KIT.due("pass", x.pass(3), 0);
        KIT.due("in place of the earlier one", x.restoreSnapshot(0), 1);
        Look.same(KIT, "now the first", Look.of(x), first);
        KIT.due("pass", x.pass(1), 0);
        KIT.due("undo after a restore", x.undo(), 0);
        Look.same(KIT, "now the first", Look.of(x), first);
        KIT.due("undo does not touch slots", x.restoreSnapshot(1), 1);
    }

    private static void slots() {
        CloudMarket x = KIT.market(TEXT);
        KIT.state("empty", () -> x.restoreSnapshot(0));
        KIT.state("empty", () -> x.restoreSnapshot(1));
        KIT.due("pass", x.pass(4), 0);
        KIT.due("save", x.saveSnapshot(0), false);
        KIT.state("still empty", () -> x.restoreSnapshot(1));
        KIT.due("a failure keeps the history", x.undo(), 0);
        KIT.due("save", x.saveSnapshot(1), false);
        KIT.due("save", x.saveSnapshot(1), true);
        KIT.due("restore", x.restoreSnapshot(0), 4);
        KIT.due("restore", x.restoreSnapshot(1), 0);
        int[] wrong = {2, -1, 31, 32, 33, Integer.MAX_VALUE, Integer.MIN_VALUE};
        for (int k : wrong) {
            KIT.index("save " + k, () -> x.saveSnapshot(k) ? 1 : 0);
            KIT.index("restore " + k, () -> x.restoreSnapshot(k));
        }
    }
}
