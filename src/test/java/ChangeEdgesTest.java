import java.util.ArrayDeque;
import java.util.Deque;

/** The boundary cases of changes, undo and snapshots and of promises 32 to 42, sentence by sentence. */
public final class ChangeEdgesTest {
    private static final Kit KIT = new Kit("ChangeEdgesTest");

    private interface Change {
        long on(CloudMarket x);
    }

    /** One of each kind, all of which succeed in the busy scene, and what they answer there. */
    private static final Change[] CHANGES = {x -> x.pass(4), x -> x.launch(0, 0), x -> x.bid(2, 0, 5),
        x -> x.withdraw(0), x -> x.stop(2), x -> x.evict(4), x -> x.migrate(0, 2), x -> x.drain(1)};
    private static final long[] ANSWERS = {0, 6, 3, 1, 0, 5, 12, 3};

    public static void main(String[] args) {
        busyScene();
        pass();
        passEnds();
        passCounts();
        launch();
        bid();
        withdraw();
        stop();
        evict();
        migrate();
        drain();
        drainCosts();
        whatIsAChange();
        latestTen();
        longHistory();
        undo();
        slots();
        snapshotsHoldAll();
        restore();
        parseStartsAnew();
        KIT.end();
    }

    /** What the other tests take for granted about the scene. */
    private static void busyScene() {
        CloudMarket x = Scenes.busy();
        KIT.due("running", x.running(), 63);
        KIT.due("on host 0", x.instancesOn(0), 0b100100);
        KIT.due("on host 1", x.instancesOn(1), 0b001011);
        KIT.due("on host 2", x.instancesOn(2), 0b010000);
        KIT.due("waiting", x.waiting(), 2);
        KIT.due("notice", x.noticeOf(3), 5);
        KIT.due("bid", x.bidOf(3), 99);
        KIT.due("bid", x.bidOf(4), 39);
        KIT.due("over", x.isOverBudget(1), true);
        KIT.due("error", x.errorPosition(), 14);
        KIT.due("host 0 cannot be drained", x.drainTo(0, 2), -1);
        for (int k = 0; k < CHANGES.length; k++) {
            KIT.due("change " + k, CHANGES[k].on(Scenes.busy()), ANSWERS[k]);
        }
    }

    // ---- the changes

    private static void pass() {
        KIT.says(32, "Lets hours pass.");
        CloudMarket x = new CloudMarket();
        KIT.says(32, "- `hours`: 1 to 500");
        KIT.argument("none", () -> x.pass(0));
        KIT.due("one", x.pass(1), 0);
        KIT.due("clock", x.clock(), 1);
        KIT.due("most", x.pass(500), 0);
        KIT.due("clock", x.clock(), 501);
        KIT.argument("one more", () -> x.pass(501));
        KIT.due("clock", x.clock(), 501);
        // Several hours at once are the same as one by one.
        CloudMarket y = Scenes.busy();
        CloudMarket z = Scenes.busy();
        long sum = 0;
        for (int k = 0; k < 9; k++) {
            sum += y.pass(1);
        }
        KIT.due("evicted in all", z.pass(9), sum);
        Look.same(KIT, "the same situation", Look.of(z), Look.of(y));
    }

    private static void passEnds() {
        KIT.says(32, "Throws `IllegalStateException` if the clock would exceed 9999");
        int[][] cases = {{9998, 1, 1}, {9998, 2, 0}, {9999, 1, 0}, {9500, 499, 1}, {9500, 500, 0}, {9499, 500, 1}};
        for (int[] c : cases) {
            CloudMarket x = new CloudMarket();
            for (int rest = c[0]; rest > 0; rest -= Math.min(500, rest)) {
                KIT.due("pass", x.pass(Math.min(500, rest)), 0);
            }
            KIT.due("clock", x.clock(), c[0]);
            if (c[2] == 1) {
                KIT.due("up to 9999", x.pass(c[1]), 0);
                KIT.due("clock", x.clock(), c[0] + c[1]);
            } else {
                KIT.state("beyond 9999", () -> x.pass(c[1]));
                KIT.due("clock", x.clock(), c[0]);
            }
        }
    }

    private static void passCounts() {
        KIT.says(32, "Returns the number of instances that were evicted.");
        KIT.due("none run", new CloudMarket().pass(500), 0);
        // One place: granted at 1, 3, 5 and so on, evicted two hours later, always with the number 0.
        int[][] cases = {{1, 0}, {2, 0}, {3, 1}, {4, 1}, {5, 2}, {20, 9}, {21, 10}, {500, 10}};
        for (int[] c : cases) {
            CloudMarket x = KIT.market("host 1 1;type 1 1 100;tenant 9999;notice 0;");
            for (int k = 1; k <= 10; k++) {
                KIT.due("bid", x.bid(0, 0, 99), k);
            }
            KIT.due("evicted in " + c[0], x.pass(c[0]), c[1]);
        }
        // Twelve at once, and an instance that is stopped by hand is not counted.
        CloudMarket y = KIT.market("host 64 64;type 1 1 100;tenant 9999;notice 0;slope 0;");
        for (int k = 0; k < 12; k++) {
            KIT.due("bid", y.bid(0, 0, 99), 1);
            KIT.due("pass", y.pass(1), 0);
        }
        for (int k = 0; k < 12; k++) {
            KIT.due("evict", y.evict(k), 12);
        }
        KIT.due("all twelve", y.pass(1), 12);
        KIT.due("none runs", y.running(), 0);
        KIT.due("undo", y.undo(), 9);
        KIT.due("stop", y.stop(0), 0);
        KIT.due("eleven", y.pass(1), 11);
    }

    private static void launch() {
        KIT.says(33, "Starts a regular instance on the best host.");
        CloudMarket x = KIT.market("host 9 9;host 1 1;type 1 1 100;tenant 9;");
        KIT.says(33, "Returns the number of the instance.");
        KIT.due("first", x.launch(0, 0), 0);
        KIT.due("exactly full", x.hostOf(0), 1);
        KIT.due("second", x.launch(0, 0), 1);
        KIT.due("the other", x.hostOf(1), 0);
        KIT.due("regular", x.bidOf(1), -1);
        KIT.due("no notice", x.noticeOf(1), -1);
        KIT.due("nothing is paid at once", x.spent(0), 0);
        KIT.due("at the list price", x.hourlyBill(0), 200);
        KIT.due("stop", x.stop(0), 1);
        KIT.due("the free number", x.launch(0, 0), 0);
        CloudMarket y = Scenes.full();
        KIT.due("stop the last", y.stop(11), 0);
        KIT.due("the last number", y.launch(0, 0), 11);
        KIT.due("undo", y.undo(), 9);
        KIT.due("stop another", y.stop(6), 0);
        KIT.due("the lowest free number", y.launch(0, 1), 6);
    }

    private static void bid() {
        KIT.says(34, "Makes a request for a spot instance. It waits at least until step 5 of the next hour.");
        CloudMarket x = KIT.market("host 64 64;type 1 1 100;tenant 9;slope 0;");
        KIT.due("bid", x.bid(0, 0, 9999), 1);
        KIT.due("it waits", x.waiting(), 1);
        KIT.due("nothing runs", x.running(), 0);
        KIT.due("pass", x.pass(1), 0);
        KIT.due("it runs", x.running(), 1);
        KIT.due("nothing waits", x.waiting(), 0);
        KIT.says(34, "- `price`: the bid, 1 to 9999");
        KIT.argument("0", () -> x.bid(0, 0, 0));
        KIT.due("1", x.bid(0, 0, 1), 1);
        KIT.due("9999", x.bid(0, 0, 9999), 2);
        KIT.argument("10000", () -> x.bid(0, 0, 10000));
        KIT.argument("-1", () -> x.bid(0, 0, -1));
        KIT.argument("least", () -> x.bid(0, 0, Integer.MIN_VALUE));
        KIT.argument("most", () -> x.bid(0, 0, Integer.MAX_VALUE));
        KIT.says(34, "Returns the number of waiting requests then.");
        for (int k = 3; k <= 10; k++) {
            KIT.due("bid", x.bid(0, 0, 7), k);
        }
        KIT.state("an eleventh", () -> x.bid(0, 0, 7));
        KIT.due("ten", x.waiting(), 10);
        KIT.due("undo", x.undo() >= 0, true);
        KIT.due("a tenth again", x.bid(0, 0, 8), 10);
        KIT.due("also one that the type can never have", KIT.market("type 64 256 9999;tenant 0;").bid(0, 0, 1), 1);
    }

    private static void withdraw() {
        KIT.says(35, "Withdraws all waiting requests of a tenant. It is a change also if there are none.");
        CloudMarket x = KIT.market("host 9 9;type 1 1 100;tenant 9;tenant 9;");
        KIT.due("none", x.withdraw(0), 0);
        KIT.due("a change", x.undo(), 0);
        KIT.says(35, "Returns the number of requests that were withdrawn.");
        for (int k = 0; k < 10; k++) {
            KIT.due("bid", x.bid(0, 0, 10 - k), k + 1);
        }
        KIT.due("none of the other tenant", x.withdraw(1), 0);
        KIT.due("ten still wait", x.waiting(), 10);
        KIT.due("all ten", x.withdraw(0), 10);
        KIT.due("none waits", x.waiting(), 0);
        KIT.due("undo", x.undo(), 9);
        KIT.due("all ten wait again", x.waitingBid(9), 1);
        KIT.due("undo the bids", x.undo() + x.undo(), 8 + 7);
        KIT.due("one of the other tenant", x.bid(1, 0, 5), 10);
        KIT.due("one", x.withdraw(1), 1);
        KIT.due("in the order as before", x.waitingBid(4), 6);
        KIT.due("in the order as before", x.waitingBid(5), 5);
        KIT.due("and the last", x.waitingBid(8), 2);
        KIT.due("no more", x.waitingBid(9), -1);
    }

    private static void stop() {
        KIT.says(36, "Stops an instance.");
        CloudMarket x = KIT.market("host 1 1;".repeat(7) + "host 5 5;type 1 1 1;tenant 9;");
        for (int k = 0; k < 12; k++) {
            KIT.due("launch", x.launch(0, 0), k);
        }
        KIT.says(36, "Returns its host.");
        KIT.due("of the first", x.stop(0), 0);
        KIT.due("of the last", x.stop(11), 7);
        KIT.due("running", x.running(), 2046);
        KIT.due("free", x.free(0, false), 1);
        KIT.due("free", x.free(7, true), 1);
        KIT.index("not twice", () -> x.stop(0));
        KIT.due("no bill for them", x.hourlyBill(0), 10);
    }

    private static void evict() {
        KIT.says(37, "Gives a spot instance a notice for the clock plus the hours of notice.");
        int[] hours = {0, 1, 48};
        for (int notice : hours) {
            CloudMarket x = KIT.market("host 4 4;type 1 1 100;tenant 9;slope 0;notice " + notice + ";");
            KIT.due("bid", x.bid(0, 0, 99), 1);
            KIT.due("pass", x.pass(7), 0);
            KIT.says(37, "Returns the hour of the notice.");
            KIT.due("hour", x.evict(0), 7 + notice);
            KIT.due("notice", x.noticeOf(0), 7 + notice);
            KIT.due("it runs on", x.running(), 1);
            KIT.state("not twice", () -> x.evict(0));
        }
        CloudMarket y = Scenes.late();
        KIT.due("at the end of the clock", y.evict(1), 10001);
        KIT.state("a regular one", () -> y.evict(0));
    }

    private static void migrate() {
        KIT.says(38, "Migrates an instance to another host. Its tenant pays the cost at once.");
        CloudMarket x = KIT.market("host 2 3;host 3 2;host 1 9;host 9 1;type 1 1 100;type 2 2 100;tenant 9;tenant 9;"
            + "move age*10+memory;slope 0;");
        KIT.due("launch", x.launch(1, 1), 0);
        KIT.due("on the lowest of 5", x.hostOf(0), 0);
        KIT.due("pass", x.pass(3), 0);
        KIT.says(38, "Returns the cost.");
        KIT.due("cost", x.migrationCost(0), 32);
        KIT.due("cost", x.migrate(0, 1), 32);
        KIT.due("its tenant", x.spent(1), 332);
        KIT.due("not another", x.spent(0), 0);
        KIT.due("there", x.hostOf(0), 1);
        KIT.due("the memory is full", x.free(1, true), 0);
        KIT.due("the old host is free", x.free(0, true), 3);
        KIT.says(38, "Throws `IllegalStateException` if the instance is on this host already or does not fit it");
        KIT.state("already there", () -> x.migrate(0, 1));
        KIT.state("one cpu too few", () -> x.migrate(0, 2));
        KIT.state("one memory too few", () -> x.migrate(0, 3));
        KIT.due("launch", x.launch(0, 0), 1);
        KIT.due("on the lowest of 5", x.hostOf(1), 0);
        KIT.state("the rest is not enough", () -> x.migrate(0, 0));
        KIT.due("to the host with one cpu", x.migrate(1, 2), 1);
        KIT.due("now it is", x.migrate(0, 0), 32);
    }

    private static void drain() {
        KIT.says(39, "Drains a host as drainTo tells; the tenants pay the costs of the migrations.");
        KIT.says(39, "Returns the number of instances that were migrated.");
        for (int many = 1; many <= 5; many++) {
            CloudMarket x = KIT.market("host 5 5;host 2 9;host 9 3;type 1 1 1;tenant 9;");
            for (int k = 0; k < many; k++) {
                KIT.due("launch", x.launch(0, 0), k);
            }
            KIT.due("all on host 0", x.instancesOn(0), (1 << many) - 1);
            int[] target = new int[many];
            for (int k = 0; k < many; k++) {
                target[k] = x.drainTo(0, k);
                KIT.due("as it must be", target[k], k < 2 ? 1 : 2);
            }
            KIT.due("drain", x.drain(0), many);
            for (int k = 0; k < many; k++) {
                KIT.due("as it was told", x.hostOf(k), target[k]);
            }
            KIT.due("drained", x.instancesOn(0), 0);
            KIT.due("free", x.free(0, false), 5);
            KIT.due("paid", x.spent(0), many);
            KIT.state("none is left", () -> x.drain(0));
        }
        CloudMarket y = KIT.market("host 6 6;host 9 9;type 1 1 1;tenant 9;");
        for (int k = 0; k < 6; k++) {
            KIT.due("launch", y.launch(0, 0), k);
        }
        KIT.state("six", () -> y.drain(0));
        KIT.due("stop", y.stop(5), 0);
        KIT.due("five", y.drain(0), 5);
    }

    private static void drainCosts() {
        CloudMarket x = KIT.market("host 9 9;host 8 8;type 1 1 10;type 1 2 10;tenant 9;tenant 9;tenant 9;slope 0;"
            + "move (memory-1)*100+age-2;");
        KIT.due("launch", x.launch(0, 0), 0);
        KIT.due("launch", x.launch(1, 1), 1);
        KIT.due("bid", x.bid(1, 0, 9), 1);
        KIT.due("pass", x.pass(3), 0);
        // Ages 3, 3 and 2: costs 1, 101 and 0, which is at least 0; bills of 30, 30 and two hours of 2.
        KIT.due("three", x.drain(1), 3);
        KIT.due("spent", x.spent(0), 31);
        KIT.due("spent", x.spent(1), 135);
        KIT.due("spent", x.spent(2), 0);
        KIT.due("it keeps its bid", x.bidOf(2), 9);
        KIT.due("it keeps its age", x.migrationCost(1), 101);
        KIT.due("pass", x.pass(1), 0);
        KIT.due("it grows older", x.migrationCost(1), 102);
    }

    // ---- undo

    private static void whatIsAChange() {
        KIT.says(0, "The methods from pass to drain are changes if they succeed.");
        for (int k = 0; k < CHANGES.length; k++) {
            CloudMarket x = Scenes.busy();
            KIT.due("restore", x.restoreSnapshot(0), 1);
            KIT.due("nothing to undo", x.undo(), -1);
            CloudMarket y = Scenes.busy();
            String before = Look.of(y);
            KIT.due("change " + k, CHANGES[k].on(y), ANSWERS[k]);
            KIT.due("it changes something " + k, Look.of(y).equals(before), false);
            KIT.due("undo", y.undo(), 9);
            Look.same(KIT, "undo of change " + k, Look.of(y), before);
        }
        // Neither snapshots nor parses are changes, nor calls that fail.
        CloudMarket z = KIT.market("host 1 1;type 1 1 1;tenant 1;");
        KIT.due("save", z.saveSnapshot(0), false);
        KIT.due("not a save", z.undo(), -1);
        KIT.due("restore", z.restoreSnapshot(0), 0);
        KIT.due("not a restore", z.undo(), -1);
        KIT.due("parse", Kit.parse(z, "host ?"), 1);
        KIT.due("not a parse", z.undo(), -1);
        KIT.argument("a failure", () -> z.pass(0));
        KIT.state("a failure", () -> z.drain(0));
        KIT.due("not a failure", z.undo(), -1);
    }

    private static void latestTen() {
        KIT.says(0, "The latest 10 changes can be undone, the latest first.");
        for (int many = 0; many <= 12; many++) {
            CloudMarket x = new CloudMarket();
            for (int k = 0; k < many; k++) {
                KIT.due("pass", x.pass(k + 1), 0);
            }
            int kept = Math.min(10, many);
            for (int k = 0; k < kept; k++) {
                KIT.due("undo " + k + " of " + many, x.undo(), kept - 1 - k);
                int left = many - 1 - k;
                KIT.due("clock", x.clock(), left * (left + 1) / 2);
            }
            KIT.due("no more of " + many, x.undo(), -1);
            int left = many - kept;
            KIT.due("the clock stays", x.clock(), left * (left + 1) / 2);
        }
    }

    /** Many changes and undos after one another, so that whatever holds the ten goes round several times. */
    private static void longHistory() {
        CloudMarket x = new CloudMarket();
        Deque<Integer> clocks = new ArrayDeque<>();
        int clock = 0;
        int seed = 12345;
        for (int k = 0; k < 240; k++) {
            seed = seed * 1103515245 + 12345;
            if ((seed >>> 16) % 5 < 3) {
                int hours = 1 + (seed >>> 20) % 40;
                KIT.due("pass", x.pass(hours), 0);
                clocks.addLast(clock);
                clock += hours;
                if (clocks.size() > 10) {
                    clocks.removeFirst();
                }
            } else {
                int want = clocks.size() - 1;
                KIT.due("undo", x.undo(), want);
                clock = clocks.isEmpty() ? clock : clocks.removeLast();
            }
            KIT.due("clock after step " + k, x.clock(), clock);
        }
    }

    private static void undo() {
        KIT.says(40, "Undoes the latest change that has not been undone.");
        CloudMarket x = Scenes.bare();
        KIT.says(40, "Returns the number of changes that can still be undone; NONE if there was none to undo.");
        KIT.due("none", x.undo(), -1);
        KIT.due("first", x.pass(1), 0);
        KIT.due("second", x.bid(0, 0, 1), 1);
        KIT.due("third", x.pass(2), 0);
        KIT.due("the third", x.undo(), 2);
        KIT.due("clock", x.clock(), 1);
        KIT.due("waiting", x.waiting(), 1);
        KIT.due("the second", x.undo(), 1);
        KIT.due("waiting", x.waiting(), 0);
        KIT.due("fourth", x.pass(9), 0);
        KIT.due("the fourth", x.undo(), 1);
        KIT.due("clock", x.clock(), 1);
        KIT.due("the first", x.undo(), 0);
        KIT.due("clock", x.clock(), 0);
        KIT.due("none", x.undo(), -1);
        KIT.due("clock", x.clock(), 0);
        // Also the latest hour of the clock can be undone, and what was refused is possible again.
        CloudMarket y = Scenes.late();
        KIT.state("no further", () -> y.pass(1));
        KIT.due("undo", y.undo(), 9);
        KIT.due("clock", y.clock(), 9499);
        KIT.due("pass", y.pass(1), 0);
    }

    // ---- snapshots

    private static void slots() {
        KIT.says(0, "There are two snapshot slots, 0 and 1; a snapshot holds everything that changes can change.");
        KIT.says(41, "- `slot`: 0 or 1");
        KIT.says(42, "- `slot`: 0 or 1");
        CloudMarket x = new CloudMarket();
        int[] wrong = {-1, 2, 3, 31, 32, 33, 64, -32, -31, Integer.MAX_VALUE, Integer.MIN_VALUE};
        for (int slot : wrong) {
            KIT.index("save in " + slot, () -> x.saveSnapshot(slot) ? 1 : 0);
            KIT.index("restore of " + slot, () -> x.restoreSnapshot(slot));
        }
        KIT.says(41, "Returns whether there was an earlier one.");
        KIT.due("first in 0", x.saveSnapshot(0), false);
        KIT.due("pass", x.pass(1), 0);
        KIT.due("first in 1", x.saveSnapshot(1), false);
        KIT.due("second in 0", x.saveSnapshot(0), true);
        KIT.due("second in 1", x.saveSnapshot(1), true);
        for (int slot : wrong) {
            KIT.index("save in " + slot, () -> x.saveSnapshot(slot) ? 1 : 0);
            KIT.index("restore of " + slot, () -> x.restoreSnapshot(slot));
        }
        KIT.says(41, "Saves a snapshot in a slot, in place of an earlier one.");
        CloudMarket y = new CloudMarket();
        KIT.due("save in 0", y.saveSnapshot(0), false);
        KIT.due("pass", y.pass(1), 0);
        KIT.due("save in 1", y.saveSnapshot(1), false);
        KIT.due("pass", y.pass(1), 0);
        KIT.due("the slots are apart", y.restoreSnapshot(0), 0);
        KIT.due("the slots are apart", y.restoreSnapshot(1), 1);
        KIT.due("pass", y.pass(5), 0);
        KIT.due("save in 0 again", y.saveSnapshot(0), true);
        KIT.due("the other is as before", y.restoreSnapshot(1), 1);
        KIT.due("the later one", y.restoreSnapshot(0), 6);
        KIT.due("still an earlier one after a restore", y.saveSnapshot(0), true);
    }

    private static void snapshotsHoldAll() {
        for (int slot = 0; slot < 2; slot++) {
            for (int k = 0; k < CHANGES.length; k++) {
                CloudMarket x = Scenes.busy();
                x.saveSnapshot(slot);
                String before = Look.of(x);
                KIT.due("change " + k, CHANGES[k].on(x), ANSWERS[k]);
                KIT.due("restore", x.restoreSnapshot(slot), 2);
                Look.same(KIT, "restored from change " + k, Look.of(x), before);
                KIT.due("undo", x.undo(), -1);
            }
        }
    }

    private static void restore() {
        KIT.says(42, "Restores the snapshot of a slot, which stays stored. The undo history is cleared.");
        CloudMarket x = new CloudMarket();
        KIT.due("pass", x.pass(3), 0);
        KIT.due("save", x.saveSnapshot(1), false);
        KIT.due("saving clears nothing", x.undo(), 0);
        KIT.due("pass", x.pass(7), 0);
        KIT.says(42, "Returns the clock then.");
        KIT.due("restore", x.restoreSnapshot(1), 3);
        KIT.due("clock", x.clock(), 3);
        KIT.due("the history is cleared", x.undo(), -1);
        KIT.due("clock", x.clock(), 3);
        KIT.due("pass", x.pass(1), 0);
        KIT.due("back to the restored one", x.undo(), 0);
        KIT.due("clock", x.clock(), 3);
        KIT.due("pass", x.pass(100), 0);
        KIT.due("it stays stored", x.restoreSnapshot(1), 3);
        KIT.due("it stays stored", x.restoreSnapshot(1), 3);
        KIT.state("the other is empty", () -> x.restoreSnapshot(0));
        for (int k = 0; k < 11; k++) {
            KIT.due("pass", x.pass(1), 0);
        }
        KIT.due("ten after a restore", x.undo(), 9);
        KIT.due("save at 13", x.saveSnapshot(0), false);
        KIT.due("the history goes on", x.undo(), 8);
        KIT.due("restore", x.restoreSnapshot(0), 13);
    }

    private static void parseStartsAnew() {
        KIT.says(0, "A successful parse restores the initial situation (clock 0, no instances and requests, nothing "
            + "spent), clears the undo history and empties both slots.");
        String text = "host 4 8;host 3 6;host 6 6;type 1 1 100;type 2 3 40;tenant 9;tenant 0;";
        CloudMarket fresh = KIT.market(text);
        CloudMarket x = Scenes.busy();
        KIT.due("both slots", x.saveSnapshot(1), false);
        KIT.due("empty the buffer", x.parse(0), 0);
        KIT.due("parse", Kit.parse(x, text), 0);
        Look.same(KIT, "as new", Look.of(x), Look.of(fresh));
        KIT.due("clock", x.clock(), 0);
        KIT.due("running", x.running(), 0);
        KIT.due("waiting", x.waiting(), 0);
        KIT.due("spent", x.spent(0), 0);
        KIT.due("over", x.isOverBudget(1), false);
        KIT.due("undo", x.undo(), -1);
        KIT.state("slot 0", () -> x.restoreSnapshot(0));
        KIT.state("slot 1", () -> x.restoreSnapshot(1));
        KIT.due("slot 0", x.saveSnapshot(0), false);
        KIT.due("slot 1", x.saveSnapshot(1), false);
        KIT.due("first instance", x.launch(0, 0), 0);
        KIT.due("undo", x.undo(), 0);
        // An empty text does the same.
        CloudMarket y = Scenes.full();
        KIT.due("parse", y.parse(0), 0);
        Look.same(KIT, "as new", Look.of(y), Look.of(new CloudMarket()));
        KIT.due("undo", y.undo(), -1);
        KIT.state("slot 1", () -> y.restoreSnapshot(1));
    }
}
