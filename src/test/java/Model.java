import java.util.ArrayList;
import java.util.List;

/**
 * The document once more, as directly and slowly as can be, to compare CloudMarket with.
 * Everything is worked out anew from plain lists whenever it is asked.
 */
final class Model {
    static final class ParseError extends RuntimeException {
        private static final long serialVersionUID = 1L;
        final int code;
        final int position;

        ParseError(int code, int position) {
            this.code = code;
            this.position = position;
        }
    }

    interface Node {
        int value(int[] type, int age);
    }

    static final class Text {
        final List<int[]> hosts = new ArrayList<>();
        final List<int[]> types = new ArrayList<>();
        final List<int[]> tenants = new ArrayList<>();
        final List<int[]> reservations = new ArrayList<>();
        int floor = -1;
        int notice = -1;
        int slope = -1;
        Node move = null;

        private final String text;
        private int at = 0;
        private int open = 0;

        Text(String text) {
            this.text = text;
        }

        private void skip() {
            while (at < text.length() && (text.charAt(at) == ' ' || text.charAt(at) == '\n')) {
                at++;
            }
        }

        /** The token at this place, "" at the end; an error if it is invalid. */
        private String peek() {
            skip();
            String rest = text.substring(at);
            String run = rest.replaceFirst("(?s)^([a-z]+|[0-9]+|[-;()+*/]).*$", "$1");
            if (rest.isEmpty()) {
                return "";
            }
            if (run.equals(rest) && !rest.matches("[a-z]+|[0-9]+|[-;()+*/]")) {
                throw new ParseError(1, at);
            }
            if (run.matches("[a-z]{9,}|[0-9]{5,}")) {
                throw new ParseError(1, at);
            }
            return run;
        }

        private void take(String want) {
            if (!peek().equals(want)) {
                throw new ParseError(1, at);
            }
            at += want.length();
        }

        private int number(int low, int high) {
            String token = peek();
            if (!token.matches("[0-9]+")) {
                throw new ParseError(1, at);
            }
            int value = Integer.parseInt(token);
            if (value < low || value > high) {
                throw new ParseError(3, at);
            }
            at += token.length();
            return value;
        }

        void cloud() {
            while (!peek().isEmpty()) {
                statement();
                take(";");
            }
        }

        private void statement() {
            String word = peek();
            switch (word) {
                case "host" -> {
                    begin(word, hosts.size() < 8, false);
                    hosts.add(new int[] {number(1, 64), number(1, 256)});
                }
                case "type" -> {
                    begin(word, types.size() < 6, false);
                    types.add(new int[] {number(1, 64), number(1, 256), number(1, 9999)});
                }
                case "tenant" -> {
                    begin(word, tenants.size() < 6, false);
                    tenants.add(new int[] {number(0, 9999)});
                }
                case "reserve" -> {
                    begin(word, reservations.size() < 8, false);
                    int tenant = number(0, tenants.size() - 1);
                    int type = number(0, types.size() - 1);
                    int many = number(1, 9);
                    int from = number(0, 9998);
                    reservations.add(new int[] {tenant, type, many, from, number(from + 1, 9999), number(0, 100)});
                }
                case "floor" -> {
                    begin(word, true, floor >= 0);
                    floor = number(1, 100);
                }
                case "notice" -> {
                    begin(word, true, notice >= 0);
                    notice = number(0, 48);
                }
                case "slope" -> {
                    begin(word, true, slope >= 0);
                    slope = number(0, 400);
                }
                case "move" -> {
                    begin(word, true, move != null);
                    move = sum();
                }
                default -> throw new ParseError(1, at);
            }
        }

        private void begin(String word, boolean room, boolean second) {
            if (second) {
                throw new ParseError(2, at);
            }
            if (!room) {
                throw new ParseError(4, at);
            }
            take(word);
        }

        private Node sum() {
            Node left = term();
            while (peek().equals("+") || peek().equals("-")) {
                boolean plus = peek().equals("+");
                at++;
                Node a = left;
                Node b = term();
                left = plus ? (t, age) -> a.value(t, age) + b.value(t, age)
                    : (t, age) -> a.value(t, age) - b.value(t, age);
            }
            return left;
        }

        private Node term() {
            Node left = factor();
            while (peek().equals("*") || peek().equals("/")) {
                boolean times = peek().equals("*");
                at++;
                Node a = left;
                Node b = factor();
                left = times ? (t, age) -> a.value(t, age) * b.value(t, age)
                    : (t, age) -> b.value(t, age) == 0 ? 0 : a.value(t, age) / b.value(t, age);
            }
            return left;
        }

        private Node factor() {
            String token = peek();
            if (token.equals("(")) {
                if (open == 5) {
                    throw new ParseError(4, at);
                }
                open++;
                take("(");
                Node inside = sum();
                take(")");
                open--;
                return inside;
            }
            if (token.matches("[0-9]+")) {
                int value = number(0, 9999);
                return (t, age) -> value;
            }
            Node name = switch (token) {
                case "cpu" -> (t, age) -> t[0];
                case "memory" -> (t, age) -> t[1];
                case "price" -> (t, age) -> t[2];
                case "age" -> (t, age) -> age;
                default -> throw new ParseError(1, at);
            };
            take(token);
            return name;
        }
    }

    record Instance(int number, int tenant, int type, int host, int bid, int notice, int start) {
        Instance on(int other) {
            return new Instance(number, tenant, type, other, bid, notice, start);
        }

        Instance noticed(int hour) {
            return new Instance(number, tenant, type, host, bid, hour, start);
        }
    }

    record Request(int tenant, int type, int bid) {
    }

    record State(int clock, List<Instance> instances, List<Request> requests, List<Integer> prices, List<Long> spent) {
    }

    private final StringBuilder buffer = new StringBuilder();
    private int error = -1;
    private Text cloud = new Text("");
    private State now = new State(0, List.of(), List.of(), List.of(), List.of());
    private List<State> past = new ArrayList<>();
    private final State[] slots = new State[2];

    private static RuntimeException index() {
        return new IndexOutOfBoundsException();
    }

    private static RuntimeException state() {
        return new IllegalStateException();
    }

    private static RuntimeException argument() {
        return new IllegalArgumentException();
    }

    // ---- cloud

    int append(int a, int b, int c, int d, int e) {
        if (buffer.length() + 20 > 800) {
            return -1;
        }
        for (int word : new int[] {a, b, c, d, e}) {
            for (int k = 3; k >= 0; k--) {
                buffer.append((char) (word >>> 8 * k & 255));
            }
        }
        return buffer.length();
    }

    int parse(int length) {
        if (length < 0 || length > buffer.length()) {
            throw argument();
        }
        Text read = new Text(buffer.substring(0, length));
        buffer.setLength(0);
        try {
            read.cloud();
        } catch (ParseError e) {
            error = e.position;
            return e.code;
        }
        error = -1;
        cloud = read;
        List<Long> spent = new ArrayList<>();
        cloud.tenants.forEach(t -> spent.add(0L));
        now = new State(0, List.of(), List.of(), List.of(), spent);
        now = new State(0, List.of(), List.of(), pricesOf(now.instances()), spent);
        past.clear();
        slots[0] = null;
        slots[1] = null;
        return 0;
    }

    int errorPosition() {
        return error;
    }

    int hostCount() {
        return cloud.hosts.size();
    }

    int typeCount() {
        return cloud.types.size();
    }

    int tenantCount() {
        return cloud.tenants.size();
    }

    int reservationCount() {
        return cloud.reservations.size();
    }

    int clock() {
        return now.clock();
    }

    private static void need(List<?> list, int k) {
        if (k < 0 || k >= list.size()) {
            throw index();
        }
    }

    private Instance need(int number) {
        for (Instance i : now.instances()) {
            if (i.number() == number) {
                return i;
            }
        }
        throw index();
    }

    // ---- hosts and prices

    private int freeOf(List<Instance> all, int host, int what) {
        int rest = cloud.hosts.get(host)[what];
        for (Instance i : all) {
            if (i.host() == host) {
                rest -= cloud.types.get(i.type())[what];
            }
        }
        return rest;
    }

    private boolean fits(List<Instance> all, int host, int type) {
        int[] t = cloud.types.get(type);
        return t[0] <= freeOf(all, host, 0) && t[1] <= freeOf(all, host, 1);
    }

    int free(int host, boolean memory) {
        need(cloud.hosts, host);
        return freeOf(now.instances(), host, memory ? 1 : 0);
    }

    int instancesOn(int host) {
        need(cloud.hosts, host);
        return now.instances().stream().filter(i -> i.host() == host).mapToInt(i -> 1 << i.number()).sum();
    }

    private int load(List<Instance> all) {
        return all.stream().mapToInt(i -> cloud.types.get(i.type())[0]).sum();
    }

    private int capacity() {
        return cloud.hosts.stream().mapToInt(h -> h[0]).sum();
    }

    double utilisation() {
        return cloud.hosts.isEmpty() ? 0.0 : (double) load(now.instances()) / capacity();
    }

    private List<Integer> pricesOf(List<Instance> all) {
        int use = cloud.hosts.isEmpty() ? 0 : load(all) * 100 / capacity();
        int floor = cloud.floor < 0 ? 20 : cloud.floor;
        int slope = cloud.slope < 0 ? 100 : cloud.slope;
        List<Integer> prices = new ArrayList<>();
        for (int[] t : cloud.types) {
            prices.add(Math.min(t[2], t[2] * (floor + slope * use / 100) / 100));
        }
        return prices;
    }

    int spotPrice(int type) {
        need(cloud.types, type);
        return now.prices().get(type);
    }

    private int best(List<Instance> all, int type) {
        int best = -1;
        for (int h = cloud.hosts.size() - 1; h >= 0; h--) {
            if (fits(all, h, type) && (best < 0 || rest(all, h) <= rest(all, best))) {
                best = h;
            }
        }
        return best;
    }

    private int rest(List<Instance> all, int host) {
        return freeOf(all, host, 0) + freeOf(all, host, 1);
    }

    int bestHost(int type) {
        need(cloud.types, type);
        return best(now.instances(), type);
    }

    int room(int type) {
        need(cloud.types, type);
        List<Instance> all = new ArrayList<>(now.instances());
        int many = 0;
        for (int h = best(all, type); h >= 0; h = best(all, type)) {
            all.add(new Instance(99, 0, type, h, -1, -1, 0));
            many++;
        }
        return many;
    }

    // ---- instances and requests

    int running() {
        return now.instances().stream().mapToInt(i -> 1 << i.number()).sum();
    }

    int typeOf(int k) {
        return need(k).type();
    }

    int tenantOf(int k) {
        return need(k).tenant();
    }

    int hostOf(int k) {
        return need(k).host();
    }

    int bidOf(int k) {
        return need(k).bid();
    }

    int noticeOf(int k) {
        return need(k).notice();
    }

    int waiting() {
        return now.requests().size();
    }

    /** Requests are kept in the order in which they were made; a stable sort gives that of step 5. */
    private static List<Request> sorted(List<Request> requests) {
        List<Request> all = new ArrayList<>(requests);
        all.sort((a, b) -> b.bid() - a.bid());
        return all;
    }

    int waitingBid(int position) {
        return position < 0 || position >= waiting() ? -1 : sorted(now.requests()).get(position).bid();
    }

    // ---- bills

    long spent(int tenant) {
        need(cloud.tenants, tenant);
        return now.spent().get(tenant);
    }

    private int regulars(State s, int tenant, int type) {
        return (int) s.instances().stream()
            .filter(i -> i.tenant() == tenant && i.type() == type && i.bid() < 0).count();
    }

    private int reserved(State s, int tenant, int type) {
        return cloud.reservations.stream()
            .filter(r -> r[0] == tenant && r[1] == type && r[3] <= s.clock() && s.clock() < r[4])
            .mapToInt(r -> r[2]).sum();
    }

    private int payment(int[] r) {
        return r[2] * (cloud.types.get(r[1])[2] * (100 - r[5]) / 100);
    }

    private int bill(State s, int tenant) {
        int sum = 0;
        for (int[] r : cloud.reservations) {
            if (r[0] == tenant && r[3] <= s.clock() && s.clock() < r[4]) {
                sum += payment(r);
            }
        }
        for (int type = 0; type < cloud.types.size(); type++) {
            sum += Math.max(0, regulars(s, tenant, type) - reserved(s, tenant, type)) * cloud.types.get(type)[2];
        }
        for (Instance i : s.instances()) {
            if (i.tenant() == tenant && i.bid() >= 0) {
                sum += s.prices().get(i.type());
            }
        }
        return sum;
    }

    int hourlyBill(int tenant) {
        need(cloud.tenants, tenant);
        return bill(now, tenant);
    }

    int covered(int tenant, int type) {
        need(cloud.tenants, tenant);
        need(cloud.types, type);
        return Math.min(regulars(now, tenant, type), reserved(now, tenant, type));
    }

    boolean isOverBudget(int tenant) {
        need(cloud.tenants, tenant);
        return now.spent().get(tenant) > 100L * cloud.tenants.get(tenant)[0];
    }

    boolean pays(int k) {
        need(cloud.reservations, k);
        int[] r = cloud.reservations.get(k);
        int can = Math.min(r[2], regulars(now, r[0], r[1]));
        return r[3] <= now.clock() && now.clock() < r[4] && payment(r) < can * cloud.types.get(r[1])[2];
    }

    // ---- packing

    int fewestHosts() {
        int best = Integer.MAX_VALUE;
        for (int set = 0; set < 1 << cloud.hosts.size(); set++) {
            if (Integer.bitCount(set) < best) {
                List<int[]> rooms = new ArrayList<>();
                for (int h = 0; h < cloud.hosts.size(); h++) {
                    if ((set >> h & 1) != 0) {
                        rooms.add(cloud.hosts.get(h).clone());
                    }
                }
                if (packs(rooms, 0)) {
                    best = Integer.bitCount(set);
                }
            }
        }
        return best;
    }

    private boolean packs(List<int[]> rooms, int k) {
        if (k == now.instances().size()) {
            return true;
        }
        int[] t = cloud.types.get(now.instances().get(k).type());
        for (int[] room : rooms) {
            if (t[0] <= room[0] && t[1] <= room[1]) {
                room[0] -= t[0];
                room[1] -= t[1];
                boolean good = packs(rooms, k + 1);
                room[0] += t[0];
                room[1] += t[1];
                if (good) {
                    return true;
                }
            }
        }
        return false;
    }

    int cheapestEviction(int host, int type) {
        need(cloud.hosts, host);
        need(cloud.types, type);
        long best = Long.MAX_VALUE;
        for (int set = 0; set < 4096; set++) {
            long bids = 0;
            boolean allowed = true;
            List<Instance> rest = new ArrayList<>(now.instances());
            for (int k = 0; k < 12; k++) {
                if ((set >> k & 1) != 0) {
                    int number = k;
                    Instance i = now.instances().stream().filter(j -> j.number() == number).findAny().orElse(null);
                    allowed = allowed && i != null && i.host() == host && i.bid() >= 0;
                    if (!allowed) {
                        break;
                    }
                    bids += i.bid();
                    rest.remove(i);
                }
            }
            if (allowed && fits(rest, host, type)) {
                best = Math.min(best, (bids * 100 + Integer.bitCount(set)) * 10000 + set);
            }
        }
        return best == Long.MAX_VALUE ? -1 : (int) (best % 10000);
    }

    int migrationCost(int k) {
        Instance i = need(k);
        int[] t = cloud.types.get(i.type());
        return Math.max(0, cloud.move == null ? t[1] : cloud.move.value(t, now.clock() - i.start()));
    }

    /** The situation of the instances after a drain, null if there is none. */
    private List<Instance> drained(int host) {
        List<Instance> movers = new ArrayList<>(now.instances().stream().filter(i -> i.host() == host).toList());
        movers.sort((a, b) -> a.number() - b.number());
        int hosts = cloud.hosts.size();
        int all = (int) Math.pow(hosts, movers.size());
        for (int code = 0; code < all; code++) {
            List<Instance> moved = new ArrayList<>(now.instances());
            moved.removeAll(movers);
            boolean good = true;
            for (int k = 0; k < movers.size() && good; k++) {
                int target = code / (int) Math.pow(hosts, movers.size() - 1 - k) % hosts;
                good = target != host && fits(moved, target, movers.get(k).type());
                moved.add(movers.get(k).on(target));
            }
            if (good) {
                return moved;
            }
        }
        return null;
    }

    int drainTo(int host, int k) {
        need(cloud.hosts, host);
        Instance i = need(k);
        if (i.host() != host || Integer.bitCount(instancesOn(host)) > 5) {
            throw state();
        }
        List<Instance> moved = drained(host);
        return moved == null ? -1 : moved.stream().filter(j -> j.number() == k).findAny().orElseThrow().host();
    }

    // ---- predictions

    int priceAfter(int type, int hours) {
        need(cloud.types, type);
        if (hours < 0 || hours > 200) {
            throw argument();
        }
        State s = now;
        for (int k = 0; k < hours; k++) {
            s = next(s, new ArrayList<>());
        }
        return s.prices().get(type);
    }

    int evictedAfter(int k) {
        need(k);
        State s = now;
        for (int hour = 1; hour <= 200; hour++) {
            List<Integer> evicted = new ArrayList<>();
            s = next(s, evicted);
            if (evicted.contains(k)) {
                return hour;
            }
        }
        return -1;
    }

    private State next(State s, List<Integer> evicted) {
        List<Long> spent = new ArrayList<>();
        for (int t = 0; t < cloud.tenants.size(); t++) {
            spent.add(s.spent().get(t) + bill(s, t));
        }
        int clock = s.clock() + 1;
        List<Instance> all = new ArrayList<>();
        for (Instance i : s.instances()) {
            if (i.notice() >= 0 && i.notice() <= clock) {
                evicted.add(i.number());
            } else {
                all.add(i);
            }
        }
        List<Integer> prices = pricesOf(all);
        int notice = cloud.notice < 0 ? 2 : cloud.notice;
        all.replaceAll(i -> i.bid() < 0 ? i
            : i.bid() >= prices.get(i.type()) ? i.noticed(-1) : i.notice() < 0 ? i.noticed(clock + notice) : i);
        List<Request> requests = new ArrayList<>(s.requests());
        for (Request r : sorted(s.requests())) {
            int host = best(all, r.type());
            if (r.bid() >= prices.get(r.type()) && all.size() < 12 && host >= 0) {
                all.add(new Instance(lowest(all), r.tenant(), r.type(), host, r.bid(), -1, clock));
                for (int k = 0; k < requests.size(); k++) {
                    if (requests.get(k) == r) {
                        requests.remove(k);
                        break;
                    }
                }
            }
        }
        return new State(clock, all, requests, prices, spent);
    }

    private static int lowest(List<Instance> all) {
        int k = 0;
        while (numbers(all).contains(k)) {
            k++;
        }
        return k;
    }

    private static List<Integer> numbers(List<Instance> all) {
        return all.stream().map(Instance::number).toList();
    }

    // ---- changes

    private void change(State to) {
        past.add(now);
        if (past.size() > 10) {
            past.remove(0);
        }
        now = to;
    }

    private State with(List<Instance> instances) {
        return new State(now.clock(), instances, now.requests(), now.prices(), now.spent());
    }

    private State asking(List<Request> requests) {
        return new State(now.clock(), now.instances(), requests, now.prices(), now.spent());
    }

    int pass(int hours) {
        if (hours < 1 || hours > 500) {
            throw argument();
        }
        if (now.clock() + hours > 9999) {
            throw state();
        }
        List<Integer> evicted = new ArrayList<>();
        State s = now;
        for (int k = 0; k < hours; k++) {
            s = next(s, evicted);
        }
        change(s);
        return evicted.size();
    }

    int launch(int tenant, int type) {
        need(cloud.tenants, tenant);
        need(cloud.types, type);
        int host = bestHost(type);
        if (isOverBudget(tenant) || now.instances().size() >= 12 || host < 0) {
            throw state();
        }
        List<Instance> all = new ArrayList<>(now.instances());
        int number = lowest(all);
        all.add(new Instance(number, tenant, type, host, -1, -1, now.clock()));
        change(with(all));
        return number;
    }

    int bid(int tenant, int type, int price) {
        need(cloud.tenants, tenant);
        need(cloud.types, type);
        if (price < 1 || price > 9999) {
            throw argument();
        }
        if (isOverBudget(tenant) || waiting() >= 10) {
            throw state();
        }
        List<Request> all = new ArrayList<>(now.requests());
        all.add(new Request(tenant, type, price));
        change(asking(all));
        return all.size();
    }

    int withdraw(int tenant) {
        need(cloud.tenants, tenant);
        List<Request> all = new ArrayList<>(now.requests());
        all.removeIf(r -> r.tenant() == tenant);
        int gone = waiting() - all.size();
        change(asking(all));
        return gone;
    }

    int stop(int k) {
        Instance i = need(k);
        List<Instance> all = new ArrayList<>(now.instances());
        all.remove(i);
        change(with(all));
        return i.host();
    }

    int evict(int k) {
        Instance i = need(k);
        if (i.bid() < 0 || i.notice() >= 0) {
            throw state();
        }
        int hour = now.clock() + (cloud.notice < 0 ? 2 : cloud.notice);
        List<Instance> all = new ArrayList<>(now.instances());
        all.replaceAll(j -> j == i ? i.noticed(hour) : j);
        change(with(all));
        return hour;
    }

    int migrate(int k, int host) {
        Instance i = need(k);
        need(cloud.hosts, host);
        if (i.host() == host || !fits(now.instances(), host, i.type())) {
            throw state();
        }
        int cost = migrationCost(k);
        List<Instance> all = new ArrayList<>(now.instances());
        all.replaceAll(j -> j == i ? i.on(host) : j);
        List<Long> spent = new ArrayList<>(now.spent());
        spent.set(i.tenant(), spent.get(i.tenant()) + cost);
        change(new State(now.clock(), all, now.requests(), now.prices(), spent));
        return cost;
    }

    int drain(int host) {
        need(cloud.hosts, host);
        int many = Integer.bitCount(instancesOn(host));
        List<Instance> moved = many == 0 || many > 5 ? null : drained(host);
        if (moved == null) {
            throw state();
        }
        List<Long> spent = new ArrayList<>(now.spent());
        for (Instance i : now.instances()) {
            if (i.host() == host) {
                spent.set(i.tenant(), spent.get(i.tenant()) + migrationCost(i.number()));
            }
        }
        change(new State(now.clock(), moved, now.requests(), now.prices(), spent));
        return many;
    }

    // ---- undo and snapshots

    int undo() {
        if (past.isEmpty()) {
            return -1;
        }
        now = past.remove(past.size() - 1);
        return past.size();
    }

    private static void needSlot(int slot) {
        if (slot < 0 || slot > 1) {
            throw index();
        }
    }

    boolean saveSnapshot(int slot) {
        needSlot(slot);
        boolean earlier = slots[slot] != null;
        slots[slot] = now;
        return earlier;
    }

    int restoreSnapshot(int slot) {
        needSlot(slot);
        if (slots[slot] == null) {
            throw state();
        }
        now = slots[slot];
        past = new ArrayList<>();
        return now.clock();
    }
}
