/**
 * Everything that can be asked without changing anything, as one text, so that two situations can be compared.
 * It asks as little as it can: an object is good for 512 calls.
 */
final class Look {
    private final CloudMarket x;
    private final StringBuilder all = new StringBuilder();
    private final int types;
    private final int tenants;
    private final int running;

    private Look(CloudMarket x) {
        this.x = x;
        this.types = count(6, x::spotPrice);
        this.tenants = count(6, x::spent);
        this.running = x.running();
    }

    private interface NumberCall {
        long answer(int number);
    }

    static String of(CloudMarket x) {
        return "error " + x.errorPosition() + apartFromErrors(x);
    }

    static String apartFromErrors(CloudMarket x) {
        Look look = new Look(x);
        look.whole();
        look.hosts();
        look.types();
        look.tenants();
        look.instances();
        return look.all.toString();
    }

    /** A look with few calls, for runs that look often. */
    static String brief(CloudMarket x) {
        Look look = new Look(x);
        look.note(" clock", x.clock());
        look.note(" running", look.running);
        look.note(" waiting", x.waiting());
        look.note(" first bid", x.waitingBid(0));
        for (int k = 0; k < look.tenants; k++) {
            look.note(" spent", x.spent(k));
        }
        for (int k = 0; k < x.hostCount(); k++) {
            look.note(" on", x.instancesOn(k));
        }
        for (int k = 0; k < 12; k++) {
            if ((look.running >> k & 1) != 0) {
                look.note(" notice", x.noticeOf(k));
            }
        }
        return look.all.toString();
    }

    static void same(Kit kit, String what, String got, String want) {
        if (!got.equals(want)) {
            System.out.println(what + ":\n  got " + got + "\n  due " + want);
        }
        kit.due(what, got.equals(want), true);
    }

    private void note(String what, Object value) {
        all.append(what).append(' ').append(value);
    }

    private void whole() {
        note(" hosts", x.hostCount());
        note(" clock", x.clock());
        note(" running", running);
        note(" use", x.utilisation());
        note(" fewest", x.fewestHosts());
        int waiting = x.waiting();
        note(" waiting", waiting);
        for (int k = 0; k <= waiting; k++) {
            note("", x.waitingBid(k));
        }
    }

    private void hosts() {
        for (int k = 0; k < x.hostCount(); k++) {
            note(" / host", k);
            note(" cpu", x.free(k, false));
            note(" memory", x.free(k, true));
            note(" on", x.instancesOn(k));
            for (int type = 0; type < types; type++) {
                note(" eviction", x.cheapestEviction(k, type));
            }
        }
    }

    private void types() {
        for (int k = 0; k < types; k++) {
            note(" / type", k);
            note(" spot", x.spotPrice(k));
            note(" best", x.bestHost(k));
            note(" room", x.room(k));
            note(" after 3", x.priceAfter(k, 3));
        }
    }

    private void tenants() {
        for (int k = 0; k < tenants; k++) {
            note(" / tenant", k);
            note(" spent", x.spent(k));
            note(" bill", x.hourlyBill(k));
            note(" over", x.isOverBudget(k));
            for (int type = 0; type < types; type++) {
                note(" covered", x.covered(k, type));
            }
        }
        int reservations = count(8, k -> x.pays(k) ? 1 : 0);
        for (int k = 0; k < reservations; k++) {
            note(" pays", x.pays(k));
        }
    }

    private void instances() {
        for (int k = 0; k < 12; k++) {
            if ((running >> k & 1) != 0) {
                note(" / instance", k);
                note(" type", x.typeOf(k));
                note(" tenant", x.tenantOf(k));
                note(" host", x.hostOf(k));
                note(" bid", x.bidOf(k));
                note(" notice", x.noticeOf(k));
                note(" cost", x.migrationCost(k));
                note(" evicted", x.evictedAfter(k));
            }
        }
    }

    /** How many numbers exist, of at most so many. */
    private static int count(int most, NumberCall call) {
        for (int k = 0; k < most; k++) {
            try {
                call.answer(k);
            } catch (IndexOutOfBoundsException e) {
                return k;
            }
        }
        return most;
    }
}
