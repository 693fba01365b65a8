import java.util.Arrays;

/**
 * A simulator of a market for cloud capacity: hosts, regular and spot instances, reservations,
 * bills, migrations, and exact answers about packing.
 */
public final class CloudMarket {
    public static final int NONE = -1;

    private static final int MAX_TEXT = 800;
    private static final int MAX_HOSTS = 8;
    private static final int MAX_TYPES = 6;
    private static final int MAX_TENANTS = 6;
    private static final int MAX_RESERVATIONS = 8;
    private static final int MAX_INSTANCES = 12;
    private static final int MAX_REQUESTS = 10;
    private static final int MAX_UNDO = 10;
    private static final int SLOTS = 2;
    private static final int MAX_CLOCK = 9999;
    private static final int MAX_PRICE = 9999;
    private static final int MAX_PASS = 500;
    private static final int MAX_AHEAD = 200;
    private static final int MAX_DRAINED = 5;

    // Columns of the tables. Hosts, types and loads share the first two, so that they can be compared.
    private static final int CPU = 0;
    private static final int MEMORY = 1;
    private static final int PRICE = 2;
    private static final int BUDGET = 0;
    // Reservations, requests and instances all begin with these two.
    private static final int TENANT = 0;
    private static final int TYPE = 1;
    private static final int MANY = 2;
    private static final int FROM = 3;
    private static final int UNTIL = 4;
    private static final int PERCENT = 5;
    private static final int BID = 2;
    private static final int HOST = 3;
    private static final int NOTICE = 4;
    private static final int START = 5;
    private static final int FLOOR = 0;
    private static final int NOTICE_HOURS = 1;
    private static final int SLOPE = 2;

    private final Reader reader = new Reader();
    private final Cloud cloud = new Cloud();
    private final Situation now = new Situation();
    private final Situation ahead = new Situation();
    private final History history = new History();
    private final Bills bills = new Bills();
    private final Packing packing = new Packing();
    private final Eviction eviction = new Eviction();
    private final Drainage drainage = new Drainage();

    public CloudMarket() {
    }

    // ---- cloud

    public int append(int a, int b, int c, int d, int e) {
        if (reader.filled + 20 > MAX_TEXT) {
            return NONE;
        }
        reader.putWord(a);
        reader.putWord(b);
        reader.putWord(c);
        reader.putWord(d);
        reader.putWord(e);
        return reader.filled;
    }

    public int parse(int length) throws IllegalArgumentException {
        if (length < 0 || length > reader.filled) {
            throw new IllegalArgumentException("length out of range");
        }
        int code = reader.read(length);
        if (code == 0) {
            cloud.copyFrom(reader.draft);
            now.reset(cloud);
            history.clear();
        }
        return code;
    }

    public int errorPosition() {
        return reader.errorAt;
    }

    public int hostCount() {
        return cloud.hosts.size;
    }

    public int clock() {
        return now.clock;
    }

    // ---- hosts and prices

    public int free(int host, boolean memory) throws IndexOutOfBoundsException {
        needRow(cloud.hosts, host);
        return now.left(cloud, host, memory ? MEMORY : CPU);
    }

    public int instancesOn(int host) throws IndexOutOfBoundsException {
        needRow(cloud.hosts, host);
        return now.setOn(host);
    }

    public double utilisation() {
        int all = cloud.hosts.total(CPU);
        return all > 0 ? (double) now.loads.total(CPU) / (double) all : 0.0;
    }

    public int spotPrice(int type) throws IndexOutOfBoundsException {
        needRow(cloud.types, type);
        return now.prices.get(type, 0);
    }

    public int bestHost(int type) throws IndexOutOfBoundsException {
        needRow(cloud.types, type);
        return now.tightestHost(cloud, type);
    }

    public int room(int type) throws IndexOutOfBoundsException {
        needRow(cloud.types, type);
        int many = 0;
        for (int host = 0; host < cloud.hosts.size; host++) {
            many += now.roomOn(cloud, host, type);
        }
        return many;
    }

    // ---- instances and requests

    public int running() {
        return now.set;
    }

    public int typeOf(int instance) throws IndexOutOfBoundsException {
        needInstance(instance);
        return now.instances.get(instance, TYPE);
    }

    public int tenantOf(int instance) throws IndexOutOfBoundsException {
        needInstance(instance);
        return now.instances.get(instance, TENANT);
    }

    public int hostOf(int instance) throws IndexOutOfBoundsException {
        needInstance(instance);
        return now.instances.get(instance, HOST);
    }

    public int bidOf(int instance) throws IndexOutOfBoundsException {
        needInstance(instance);
        return now.instances.get(instance, BID);
    }

    public int noticeOf(int instance) throws IndexOutOfBoundsException {
        needInstance(instance);
        return now.instances.get(instance, NOTICE);
    }

    public int waiting() {
        return now.requests.size;
    }

    public int waitingBid(int position) {
        return now.requests.has(position) ? now.requests.get(position, BID) : NONE;
    }

    // ---- bills

    public long spent(int tenant) throws IndexOutOfBoundsException {
        needRow(cloud.tenants, tenant);
        return now.spentBy(tenant);
    }

    public int hourlyBill(int tenant) throws IndexOutOfBoundsException {
        needRow(cloud.tenants, tenant);
        bills.reckon(cloud, now);
        return bills.due.get(tenant, 0);
    }

    public int covered(int tenant, int type) throws IndexOutOfBoundsException {
        needRow(cloud.tenants, tenant);
        needRow(cloud.types, type);
        return Math.min(now.regulars(tenant, type), cloud.reserved(tenant, type, now.clock));
    }

    public boolean isOverBudget(int tenant) throws IndexOutOfBoundsException {
        needRow(cloud.tenants, tenant);
        return now.isOver(cloud, tenant);
    }

    public boolean pays(int reservation) throws IndexOutOfBoundsException {
        needRow(cloud.reservations, reservation);
        int tenant = cloud.reservations.get(reservation, TENANT);
        int type = cloud.reservations.get(reservation, TYPE);
        int many = Math.min(cloud.reservations.get(reservation, MANY), now.regulars(tenant, type));
        return cloud.isActive(reservation, now.clock)
            && cloud.payment(reservation) < many * cloud.types.get(type, PRICE);
    }

    // ---- packing

    public int fewestHosts() {
        return packing.fewestFor(cloud, now);
    }

    public int cheapestEviction(int host, int type) throws IndexOutOfBoundsException {
        needRow(cloud.hosts, host);
        needRow(cloud.types, type);
        return eviction.cheapest(cloud, now, host, type);
    }

    public int migrationCost(int instance) throws IndexOutOfBoundsException {
        needInstance(instance);
        return now.moveCost(cloud, instance);
    }

    public int drainTo(int host, int instance) throws IndexOutOfBoundsException, IllegalStateException {
        needRow(cloud.hosts, host);
        needInstance(instance);
        if (now.instances.get(instance, HOST) != host) {
            throw new IllegalStateException("the instance is not on the host");
        }
        if (Integer.bitCount(now.setOn(host)) > MAX_DRAINED) {
            throw new IllegalStateException("too many instances on the host");
        }
        return drainage.plan(cloud, now, host) ? drainage.targetOf(instance) : NONE;
    }

    // ---- predictions: nothing changes by them

    public int priceAfter(int type, int hours) throws IndexOutOfBoundsException, IllegalArgumentException {
        needRow(cloud.types, type);
        if (hours < 0 || hours > MAX_AHEAD) {
            throw new IllegalArgumentException("hours out of range");
        }
        ahead.copyFrom(now);
        for (int hour = 0; hour < hours; hour++) {
            ahead.nextHour(cloud);
        }
        return ahead.prices.get(type, 0);
    }

    public int evictedAfter(int instance) throws IndexOutOfBoundsException {
        needInstance(instance);
        ahead.copyFrom(now);
        for (int hour = 1; hour <= MAX_AHEAD; hour++) {
            // The set of the evicted is asked, since a freed number may be taken again in the same hour.
            if ((ahead.nextHour(cloud) >> instance & 1) != 0) {
                return hour;
            }
        }
        return NONE;
    }

    // ---- changes

    public int pass(int hours) throws IllegalArgumentException, IllegalStateException {
        if (hours < 1 || hours > MAX_PASS) {
            throw new IllegalArgumentException("hours out of range");
        }
        if (now.clock + hours > MAX_CLOCK) {
            throw new IllegalStateException("the clock would exceed its end");
        }
        history.remember(now);
        int evicted = 0;
        for (int hour = 0; hour < hours; hour++) {
            bills.reckon(cloud, now);
            bills.charge(now);
            evicted += Integer.bitCount(now.nextHour(cloud));
        }
        return evicted;
    }

    public int launch(int tenant, int type) throws IndexOutOfBoundsException, IllegalStateException {
        needRow(cloud.tenants, tenant);
        needRow(cloud.types, type);
        needBudget(tenant);
        if (now.isFull()) {
            throw new IllegalStateException("too many instances");
        }
        int host = now.tightestHost(cloud, type);
        if (host == NONE) {
            throw new IllegalStateException("the type fits no host");
        }
        history.remember(now);
        return now.start(cloud, tenant, type, NONE, host);
    }

    public int bid(int tenant, int type, int price)
        throws IndexOutOfBoundsException, IllegalArgumentException, IllegalStateException {
        needRow(cloud.tenants, tenant);
        needRow(cloud.types, type);
        if (price < 1 || price > MAX_PRICE) {
            throw new IllegalArgumentException("price out of range");
        }
        needBudget(tenant);
        if (now.requests.isFull()) {
            throw new IllegalStateException("too many waiting requests");
        }
        history.remember(now);
        now.queue(tenant, type, price);
        return now.requests.size;
    }

    public int withdraw(int tenant) throws IndexOutOfBoundsException {
        needRow(cloud.tenants, tenant);
        history.remember(now);
        return now.dropRequests(tenant);
    }

    public int stop(int instance) throws IndexOutOfBoundsException {
        needInstance(instance);
        history.remember(now);
        int host = now.instances.get(instance, HOST);
        now.end(cloud, instance);
        return host;
    }

    public int evict(int instance) throws IndexOutOfBoundsException, IllegalStateException {
        needInstance(instance);
        if (now.instances.get(instance, BID) == NONE) {
            throw new IllegalStateException("a regular instance");
        }
        if (now.instances.get(instance, NOTICE) != NONE) {
            throw new IllegalStateException("the instance has a notice");
        }
        history.remember(now);
        now.giveNotice(cloud, instance);
        return now.instances.get(instance, NOTICE);
    }

    public int migrate(int instance, int host) throws IndexOutOfBoundsException, IllegalStateException {
        needInstance(instance);
        needRow(cloud.hosts, host);
        if (now.instances.get(instance, HOST) == host) {
            throw new IllegalStateException("the instance is on this host");
        }
        if (!now.fits(cloud, now.instances.get(instance, TYPE), host)) {
            throw new IllegalStateException("the instance does not fit the host");
        }
        history.remember(now);
        return now.moveTo(cloud, instance, host);
    }

    public int drain(int host) throws IndexOutOfBoundsException, IllegalStateException {
        needRow(cloud.hosts, host);
        int moved = Integer.bitCount(now.setOn(host));
        if (moved == 0 || moved > MAX_DRAINED) {
            throw new IllegalStateException("no instances or too many on the host");
        }
        if (!drainage.plan(cloud, now, host)) {
            throw new IllegalStateException("the host cannot be drained");
        }
        history.remember(now);
        drainage.carryOut(cloud, now);
        return moved;
    }

    // ---- undo and snapshots

    public int undo() {
        return history.takeBack(now) ? history.size : NONE;
    }

    public boolean saveSnapshot(int slot) throws IndexOutOfBoundsException {
        needSlot(slot);
        boolean earlier = history.isSaved(slot);
        history.save(slot, now);
        return earlier;
    }

    public int restoreSnapshot(int slot) throws IndexOutOfBoundsException, IllegalStateException {
        needSlot(slot);
        if (!history.isSaved(slot)) {
            throw new IllegalStateException("the slot is empty");
        }
        history.restore(slot, now);
        return now.clock;
    }

    private void needRow(Table table, int row) {
        if (!table.has(row)) {
            throw new IndexOutOfBoundsException("no such number");
        }
    }

    private void needInstance(int instance) {
        if (!now.runs(instance)) {
            throw new IndexOutOfBoundsException("no such running instance");
        }
    }

    private void needSlot(int slot) {
        if (slot < 0 || slot >= SLOTS) {
            throw new IndexOutOfBoundsException("no such slot");
        }
    }

    private void needBudget(int tenant) {
        if (now.isOver(cloud, tenant)) {
            throw new IllegalStateException("the tenant is over budget");
        }
    }

    /**
     * Rows of numbers, the first size of them in use. Every index is looked at here, in one place:
     * a cell outside the table reads as 0 and is never written.
     */
    private static final class Table {
        // With sides up to this the number of cells cannot overflow.
        private static final int MAX_SIDE = 1000;

        private final int rows;
        private final int columns;
        private final int[] cells;
        private int size = 0;

        Table(int rows, int columns) {
            this.rows = Math.max(0, Math.min(rows, MAX_SIDE));
            this.columns = Math.max(0, Math.min(columns, MAX_SIDE));
            this.cells = new int[this.rows * this.columns];
        }

        boolean has(int row) {
            return row >= 0 && row < size;
        }

        boolean isFull() {
            return size >= rows;
        }

        int get(int row, int column) {
            int cell = row * columns + column;
            return column >= 0 && column < columns && cell >= 0 && cell < cells.length ? cells[cell] : 0;
        }

        void set(int row, int column, int value) {
            int cell = row * columns + column;
            if (column >= 0 && column < columns && cell >= 0 && cell < cells.length) {
                cells[cell] = value;
            }
        }

        void add(int row, int column, int value) {
            set(row, column, get(row, column) + value);
        }

        /** The sum of a column over the whole table, used or not: unused rows are 0 where this is asked. */
        int total(int column) {
            int sum = 0;
            for (int row = 0; row < rows; row++) {
                sum += get(row, column);
            }
            return sum;
        }

        /** Makes room for a row; its cells keep old values until they are set. */
        void insertRow(int row) {
            if (row >= 0 && row <= size && size < rows) {
                shift(row, row + 1, size - row);
                size++;
            }
        }

        void removeRow(int row) {
            if (has(row)) {
                shift(row + 1, row, size - row - 1);
                size--;
            }
        }

        void clear() {
            Arrays.fill(cells, 0);
            size = 0;
        }

        void copyFrom(Table other) {
            System.arraycopy(other.cells, 0, cells, 0, Math.min(cells.length, other.cells.length));
            size = other.size;
        }

        private void shift(int from, int to, int many) {
            int most = rows - Math.max(from, to);
            if (from >= 0 && to >= 0 && many > 0 && many <= most) {
                System.arraycopy(cells, from * columns, cells, to * columns, many * columns);
            }
        }
    }

    /** The sum of a move statement, kept in postfix order so that no tree has to be made and walked. */
    private static final class Sum {
        // What is not a number from 0 to 9999: a name, or an operator as its sign, negated.
        static final int CPU_NAME = -1;
        static final int MEMORY_NAME = -2;
        static final int PRICE_NAME = -3;
        static final int AGE_NAME = -4;
        // Five brackets in brackets leave at most 13 values open at once.
        private static final int MAX_OPEN = 16;

        private final int[] codes = new int[MAX_TEXT];
        private int length = 0;
        private final int[] open = new int[MAX_OPEN];

        void clear() {
            length = 0;
        }

        void add(int code) {
            if (length >= 0 && length < codes.length) {
                codes[length] = code;
                length++;
            }
        }

        void copyFrom(Sum other) {
            int most = Math.min(codes.length, other.codes.length);
            length = Math.max(0, Math.min(other.length, most));
            System.arraycopy(other.codes, 0, codes, 0, length);
        }

        int value(Table types, int type, int age) {
            int top = 0;
            for (int k = 0; k < length && k < codes.length; k++) {
                int code = codes[k];
                if (code < AGE_NAME) {
                    if (top >= 2 && top <= open.length) {
                        open[top - 2] = apply(-code, open[top - 2], open[top - 1]);
                        top--;
                    }
                } else if (top < open.length) {
                    open[top] = operand(code, types, type, age);
                    top++;
                }
            }
            return top == 1 ? open[0] : 0;
        }

        private static int operand(int code, Table types, int type, int age) {
            switch (code) {
                case CPU_NAME:
                    return types.get(type, CPU);
                case MEMORY_NAME:
                    return types.get(type, MEMORY);
                case PRICE_NAME:
                    return types.get(type, PRICE);
                case AGE_NAME:
                    return age;
                default:
                    return code;
            }
        }

        private static int apply(int sign, int a, int b) {
            switch (sign) {
                case '+':
                    return a + b;
                case '-':
                    return a - b;
                case '*':
                    return a * b;
                default:
                    return b == 0 ? 0 : a / b;
            }
        }
    }

    /** What a cloud text describes. */
    private static final class Cloud {
        private final Table hosts = new Table(MAX_HOSTS, 2);
        private final Table types = new Table(MAX_TYPES, 3);
        private final Table tenants = new Table(MAX_TENANTS, 1);
        private final Table reservations = new Table(MAX_RESERVATIONS, 6);
        private final Table settings = new Table(1, 3);
        private final Sum move = new Sum();

        Cloud() {
            reset();
        }

        void reset() {
            hosts.clear();
            types.clear();
            tenants.clear();
            reservations.clear();
            settings.clear();
            settings.set(0, FLOOR, 20);
            settings.set(0, NOTICE_HOURS, 2);
            settings.set(0, SLOPE, 100);
            move.clear();
            move.add(Sum.MEMORY_NAME);
        }

        void copyFrom(Cloud other) {
            hosts.copyFrom(other.hosts);
            types.copyFrom(other.types);
            tenants.copyFrom(other.tenants);
            reservations.copyFrom(other.reservations);
            settings.copyFrom(other.settings);
            move.copyFrom(other.move);
        }

        int priceAt(int type, int use) {
            int percent = settings.get(0, FLOOR) + settings.get(0, SLOPE) * use / 100;
            int price = types.get(type, PRICE);
            return Math.min(price, price * percent / 100);
        }

        boolean isActive(int reservation, int hour) {
            return reservations.get(reservation, FROM) <= hour && hour < reservations.get(reservation, UNTIL);
        }

        /** The hourly payment of a reservation while it is active. */
        int payment(int reservation) {
            int price = types.get(reservations.get(reservation, TYPE), PRICE);
            int reduced = price * (100 - reservations.get(reservation, PERCENT)) / 100;
            return reservations.get(reservation, MANY) * reduced;
        }

        /** How many instances of a tenant and a type the reservations of an hour can cover. */
        int reserved(int tenant, int type, int hour) {
            int many = 0;
            for (int k = 0; k < reservations.size; k++) {
                boolean same = reservations.get(k, TENANT) == tenant && reservations.get(k, TYPE) == type;
                if (same && isActive(k, hour)) {
                    many += reservations.get(k, MANY);
                }
            }
            return many;
        }
    }

    /** Holds the input buffer and reads a cloud text from it into a draft, up to the first error. */
    private static final class Reader {
        private static final int MALFORMED = 1;
        private static final int SECOND = 2;
        private static final int OUT_OF_RANGE = 3;
        private static final int BEYOND_LIMIT = 4;
        // Kinds of tokens; a sign's kind is its own byte.
        private static final int END = 0;
        private static final int WORD = 1;
        private static final int NUMBER = 2;
        private static final int INVALID = 3;
        private static final int SIGN = 4;
        private static final int BLANK = 5;
        private static final int MAX_LETTERS = 8;
        private static final int MAX_DIGITS = 4;
        private static final int MAX_BRACKETS = 5;

        private final byte[] text = new byte[MAX_TEXT];
        private int filled = 0;
        // The sort of each byte: worked out before the reading, which then needs fewer calls inside calls.
        private final byte[] sorts = new byte[MAX_TEXT];
        private final Cloud draft = new Cloud();
        private int errorAt = NONE;
        private int code = 0;
        private int length = 0;
        private int next = 0;
        private int start = 0;
        private int kind = END;
        // The words floor, notice, slope and move that have occurred, a bit each.
        private int seen = 0;

        void putWord(int word) {
            for (int shift = 24; shift >= 0; shift -= 8) {
                if (filled >= 0 && filled < text.length) {
                    text[filled] = (byte) (word >> shift);
                    filled++;
                }
            }
        }

        /** Empties the buffer; returns the code of the error, 0 if there is none. */
        int read(int textLength) {
            draft.reset();
            errorAt = NONE;
            code = 0;
            length = Math.max(0, Math.min(textLength, text.length));
            filled = 0;
            next = 0;
            seen = 0;
            for (int k = 0; k < length && k < text.length && k < sorts.length; k++) {
                sorts[k] = (byte) sortOf(text[k]);
            }
            advance();
            boolean good = true;
            for (int n = 0; n <= MAX_TEXT && good && kind != END; n++) {
                good = statement() && takes(';');
            }
            return code;
        }

        /** Takes a statement without its semicolon. */

        private boolean statement() {
            if (isWord("host")) {
                return opens(draft.hosts) && puts(draft.hosts, CPU, 1, 64)
                    && puts(draft.hosts, MEMORY, 1, 256) && keeps(draft.hosts);
            }
            if (isWord("type")) {
                return opens(draft.types) && puts(draft.types, CPU, 1, 64)
                    && puts(draft.types, MEMORY, 1, 256) && puts(draft.types, PRICE, 1, MAX_PRICE)
                    && keeps(draft.types);
            }
            if (isWord("tenant")) {
                return opens(draft.tenants) && puts(draft.tenants, BUDGET, 0, 9999) && keeps(draft.tenants);
            }
            if (isWord("reserve")) {
                return reservation(draft.reservations);
            }
            if (isWord("floor")) {
                return isFirst(1) && puts(draft.settings, FLOOR, 1, 100);
            }
            if (isWord("notice")) {
                return isFirst(2) && puts(draft.settings, NOTICE_HOURS, 0, 48);
            }
            if (isWord("slope")) {
                return isFirst(4) && puts(draft.settings, SLOPE, 0, 400);
            }
            if (isWord("move")) {
                draft.move.clear();
                return isFirst(8) && sum(0);
            }
            return fail(MALFORMED);
        }

        private boolean reservation(Table table) {
            return opens(table) && puts(table, TENANT, 0, draft.tenants.size - 1)
                && puts(table, TYPE, 0, draft.types.size - 1) && puts(table, MANY, 1, 9)
                && puts(table, FROM, 0, MAX_CLOCK - 1)
                && puts(table, UNTIL, table.get(table.size, FROM) + 1, MAX_CLOCK)
                && puts(table, PERCENT, 0, 100) && keeps(table);
        }

        /** Takes the word of a statement that adds a row. */
        private boolean opens(Table table) {
            if (table.isFull()) {
                return fail(BEYOND_LIMIT);
            }
            advance();
            return true;
        }

        /** Takes the word of a statement that can occur once. */
        private boolean isFirst(int bit) {
            if ((seen & bit) != 0) {
                return fail(SECOND);
            }
            seen |= bit;
            advance();
            return true;
        }

        /** Takes a number into the first row that is not in use yet. */
        private boolean puts(Table table, int column, int low, int high) {
            if (kind != NUMBER) {
                return fail(MALFORMED);
            }
            int value = number();
            if (value < low || value > high) {
                return fail(OUT_OF_RANGE);
            }
            table.set(table.size, column, value);
            advance();
            return true;
        }

        /** Brings the row into use that the numbers of a statement have filled. */
        private boolean keeps(Table table) {
            table.insertRow(table.size);
            return true;
        }

        private boolean takes(int sign) {
            if (kind != sign) {
                return fail(MALFORMED);
            }
            advance();
            return true;
        }

        /**
         * Takes a sum while so many brackets are open. An operator is put behind its right side:
         * a product's at once, a plus or minus when the term on its right has ended.
         */
        private boolean sum(int brackets) {
            int adding = 0;
            boolean good = factor(brackets);
            for (int n = 0; n <= MAX_TEXT && good; n++) {
                int sign = kind;
                boolean product = sign == '*' || sign == '/';
                boolean addition = sign == '+' || sign == '-';
                if (!product && adding != 0) {
                    draft.move.add(-adding);
                    adding = 0;
                }
                if (!product && !addition) {
                    return true;
                }
                advance();
                good = factor(brackets);
                if (product) {
                    draft.move.add(-sign);
                } else {
                    adding = sign;
                }
            }
            return good;
        }

        private boolean factor(int brackets) {
            if (kind == '(') {
                if (brackets >= MAX_BRACKETS) {
                    return fail(BEYOND_LIMIT);
                }
                advance();
                return sum(brackets + 1) && takes(')');
            }
            int operand = kind == NUMBER ? number() : name();
            if (operand == 0 && kind != NUMBER) {
                return fail(MALFORMED);
            }
            draft.move.add(operand);
            advance();
            return true;
        }

        /** The code of the name at this place, 0 if there is none. */
        private int name() {
            if (isWord("cpu")) {
                return Sum.CPU_NAME;
            }
            if (isWord("memory")) {
                return Sum.MEMORY_NAME;
            }
            if (isWord("price")) {
                return Sum.PRICE_NAME;
            }
            return isWord("age") ? Sum.AGE_NAME : 0;
        }

        private boolean fail(int failure) {
            code = failure;
            errorAt = start;
            return false;
        }

        private void advance() {
            start = runEnd(next, BLANK);
            if (start >= length || start >= text.length || start >= sorts.length) {
                kind = END;
                start = length;
                next = length;
                return;
            }
            int sort = sorts[start];
            next = sort == WORD || sort == NUMBER ? runEnd(start, sort) : start + 1;
            int most = sort == WORD ? MAX_LETTERS : MAX_DIGITS;
            if (sort == SIGN) {
                kind = text[start];
            } else {
                kind = next - start <= most && (sort == WORD || sort == NUMBER) ? sort : INVALID;
            }
        }

        private int runEnd(int from, int sort) {
            int end = from < 0 ? 0 : from;
            while (end < length && end < sorts.length && sorts[end] == sort) {
                end++;
            }
            return end;
        }

        private static int sortOf(byte b) {
            if (b >= 'a' && b <= 'z') {
                return WORD;
            }
            if (b >= '0' && b <= '9') {
                return NUMBER;
            }
            switch (b) {
                case ' ':
                case '\n':
                    return BLANK;
                case ';':
                case '(':
                case ')':
                case '+':
                case '-':
                case '*':
                case '/':
                    return SIGN;
                default:
                    return INVALID;
            }
        }

        private int number() {
            int value = 0;
            for (int k = Math.max(0, start); k < next && k < text.length; k++) {
                value = value * 10 + text[k] - '0';
            }
            return value;
        }

        private boolean isWord(String word) {
            if (kind != WORD || next - start != word.length()) {
                return false;
            }
            for (int k = 0; k < word.length(); k++) {
                int at = start + k;
                if (at < 0 || at >= text.length || text[at] != word.charAt(k)) {
                    return false;
                }
            }
            return true;
        }
    }

    /** Everything that changes can change. */
    private static final class Situation {
        private int clock = 0;
        // The running instances, bit k for instance k.
        private int set = 0;
        private final Table instances = new Table(MAX_INSTANCES, 6);
        // In the order of step 5 of an hour.
        private final Table requests = new Table(MAX_REQUESTS, 3);
        private final Table prices = new Table(MAX_TYPES, 1);
        // What the instances take on each host; kept, since an hour asks for it often.
        private final Table loads = new Table(MAX_HOSTS, 2);
        private final long[] spending = new long[MAX_TENANTS];

        void reset(Cloud cloud) {
            clock = 0;
            set = 0;
            instances.clear();
            requests.clear();
            loads.clear();
            Arrays.fill(spending, 0L);
            setPrices(cloud);
        }

        void copyFrom(Situation other) {
            clock = other.clock;
            set = other.set;
            instances.copyFrom(other.instances);
            requests.copyFrom(other.requests);
            prices.copyFrom(other.prices);
            loads.copyFrom(other.loads);
            System.arraycopy(other.spending, 0, spending, 0, Math.min(spending.length, other.spending.length));
        }

        boolean runs(int instance) {
            return instance >= 0 && instance < MAX_INSTANCES && (set >> instance & 1) != 0;
        }

        boolean isFull() {
            return Integer.bitCount(set) >= MAX_INSTANCES;
        }

        int setOn(int host) {
            int found = 0;
            for (int k = 0; k < MAX_INSTANCES; k++) {
                if (runs(k) && instances.get(k, HOST) == host) {
                    found |= 1 << k;
                }
            }
            return found;
        }

        int hostsInUse() {
            int many = 0;
            for (int host = 0; host < MAX_HOSTS; host++) {
                many += loads.get(host, CPU) > 0 ? 1 : 0;
            }
            return many;
        }

        /** How many instances of a type run, regular or not. */
        int manyOf(int type) {
            int many = 0;
            for (int k = 0; k < MAX_INSTANCES; k++) {
                many += runs(k) && instances.get(k, TYPE) == type ? 1 : 0;
            }
            return many;
        }

        int regulars(int tenant, int type) {
            int many = 0;
            for (int k = 0; k < MAX_INSTANCES; k++) {
                boolean same = instances.get(k, TENANT) == tenant && instances.get(k, TYPE) == type;
                if (runs(k) && same && instances.get(k, BID) == NONE) {
                    many++;
                }
            }
            return many;
        }

        long spentBy(int tenant) {
            return tenant >= 0 && tenant < spending.length ? spending[tenant] : 0L;
        }

        void charge(int tenant, int amount) {
            if (tenant >= 0 && tenant < spending.length) {
                spending[tenant] += amount;
            }
        }

        boolean isOver(Cloud cloud, int tenant) {
            return spentBy(tenant) > 100L * cloud.tenants.get(tenant, BUDGET);
        }

        /** What is free of the cpu or the memory of a host. */
        int left(Cloud cloud, int host, int column) {
            return cloud.hosts.get(host, column) - loads.get(host, column);
        }

        boolean fits(Cloud cloud, int type, int host) {
            return cloud.types.get(type, CPU) <= left(cloud, host, CPU)
                && cloud.types.get(type, MEMORY) <= left(cloud, host, MEMORY);
        }

        /** The best host for a type, NONE if it fits none. */
        int tightestHost(Cloud cloud, int type) {
            int best = NONE;
            int least = 0;
            for (int host = 0; host < cloud.hosts.size; host++) {
                if (fits(cloud, type, host)) {
                    int rest = left(cloud, host, CPU) + left(cloud, host, MEMORY);
                    if (best == NONE || rest < least) {
                        best = host;
                        least = rest;
                    }
                }
            }
            return best;
        }

        /** How many more instances of a type one host takes: the order of the hosts does not matter for it. */
        int roomOn(Cloud cloud, int host, int type) {
            int cpu = cloud.types.get(type, CPU);
            int memory = cloud.types.get(type, MEMORY);
            if (cpu <= 0 || memory <= 0) {
                return 0;
            }
            return Math.min(left(cloud, host, CPU) / cpu, left(cloud, host, MEMORY) / memory);
        }

        int moveCost(Cloud cloud, int instance) {
            int age = clock - instances.get(instance, START);
            return Math.max(0, cloud.move.value(cloud.types, instances.get(instance, TYPE), age));
        }

        /** Starts an instance on a host that it fits, regular if the bid is NONE; returns its number. */
        int start(Cloud cloud, int tenant, int type, int bidding, int host) {
            int instance = lowestFree();
            set |= 1 << instance;
            instances.set(instance, TENANT, tenant);
            instances.set(instance, TYPE, type);
            instances.set(instance, BID, bidding);
            instances.set(instance, HOST, host);
            instances.set(instance, NOTICE, NONE);
            instances.set(instance, START, clock);
            load(cloud, instance, 1);
            return instance;
        }

        void end(Cloud cloud, int instance) {
            load(cloud, instance, -1);
            set &= ~(1 << instance);
        }

        /** Moves an instance at its tenant's cost; returns the cost. */
        int moveTo(Cloud cloud, int instance, int host) {
            int cost = moveCost(cloud, instance);
            load(cloud, instance, -1);
            instances.set(instance, HOST, host);
            load(cloud, instance, 1);
            charge(instances.get(instance, TENANT), cost);
            return cost;
        }

        void giveNotice(Cloud cloud, int instance) {
            instances.set(instance, NOTICE, clock + cloud.settings.get(0, NOTICE_HOURS));
        }

        /** Puts a request behind all whose bids are as high. */
        void queue(int tenant, int type, int bidding) {
            int row = 0;
            while (row < requests.size && requests.get(row, BID) >= bidding) {
                row++;
            }
            requests.insertRow(row);
            requests.set(row, TENANT, tenant);
            requests.set(row, TYPE, type);
            requests.set(row, BID, bidding);
        }

        int dropRequests(int tenant) {
            int before = requests.size;
            for (int row = before - 1; row >= 0; row--) {
                if (requests.get(row, TENANT) == tenant) {
                    requests.removeRow(row);
                }
            }
            return before - requests.size;
        }

        /**
         * Lets an hour pass but for its bills, on which nothing else of the hour depends.
         * Returns the set of the instances that were evicted.
         */
        int nextHour(Cloud cloud) {
            clock++;
            int evicted = endDue(cloud);
            setPrices(cloud);
            setNotices(cloud);
            grantRequests(cloud);
            return evicted;
        }

        private int endDue(Cloud cloud) {
            int evicted = 0;
            for (int k = 0; k < MAX_INSTANCES; k++) {
                int notice = instances.get(k, NOTICE);
                if (runs(k) && notice != NONE && notice <= clock) {
                    end(cloud, k);
                    evicted |= 1 << k;
                }
            }
            return evicted;
        }

        private void setPrices(Cloud cloud) {
            int all = cloud.hosts.total(CPU);
            int use = all > 0 ? 100 * loads.total(CPU) / all : 0;
            for (int type = 0; type < cloud.types.size; type++) {
                prices.set(type, 0, cloud.priceAt(type, use));
            }
        }

        private void setNotices(Cloud cloud) {
            for (int k = 0; k < MAX_INSTANCES; k++) {
                int bidding = instances.get(k, BID);
                if (runs(k) && bidding != NONE) {
                    if (bidding >= prices.get(instances.get(k, TYPE), 0)) {
                        instances.set(k, NOTICE, NONE);
                    } else if (instances.get(k, NOTICE) == NONE) {
                        giveNotice(cloud, k);
                    }
                }
            }
        }

        private void grantRequests(Cloud cloud) {
            int row = 0;
            for (int n = 0; n < MAX_REQUESTS && row < requests.size; n++) {
                int type = requests.get(row, TYPE);
                int bidding = requests.get(row, BID);
                boolean dear = bidding >= prices.get(type, 0) && !isFull();
                int host = dear ? tightestHost(cloud, type) : NONE;
                if (host == NONE) {
                    row++;
                } else {
                    start(cloud, requests.get(row, TENANT), type, bidding, host);
                    requests.removeRow(row);
                }
            }
        }

        private int lowestFree() {
            int instance = 0;
            while (instance < MAX_INSTANCES - 1 && runs(instance)) {
                instance++;
            }
            return instance;
        }

        /** Adds an instance to the load of its host, or takes it away. */
        private void load(Cloud cloud, int instance, int times) {
            int type = instances.get(instance, TYPE);
            int host = instances.get(instance, HOST);
            loads.add(host, CPU, times * cloud.types.get(type, CPU));
            loads.add(host, MEMORY, times * cloud.types.get(type, MEMORY));
        }
    }

    /** The changes that can be undone, in a ring, and the snapshots. */
    private static final class History {
        private final Situation[] past = new Situation[MAX_UNDO];
        private final Situation[] slots = new Situation[SLOTS];
        private int size = 0;
        // Where the situation before the next change is put.
        private int top = 0;
        // The slots that are not empty, a bit each.
        private int saved = 0;

        History() {
            for (int k = 0; k < past.length; k++) {
                past[k] = new Situation();
            }
            for (int k = 0; k < slots.length; k++) {
                slots[k] = new Situation();
            }
        }

        void clear() {
            size = 0;
            saved = 0;
        }

        void remember(Situation before) {
            if (top >= 0 && top < past.length && past[top] != null) {
                past[top].copyFrom(before);
                top = top + 1 < past.length ? top + 1 : 0;
                size = Math.min(size + 1, past.length);
            }
        }

        boolean takeBack(Situation now) {
            int newest = top > 0 ? top - 1 : past.length - 1;
            if (size <= 0 || newest < 0 || newest >= past.length || past[newest] == null) {
                return false;
            }
            now.copyFrom(past[newest]);
            top = newest;
            size--;
            return true;
        }

        boolean isSaved(int slot) {
            return slot >= 0 && slot < slots.length && (saved >> slot & 1) != 0;
        }

        void save(int slot, Situation now) {
            if (slot >= 0 && slot < slots.length && slots[slot] != null) {
                slots[slot].copyFrom(now);
                saved |= 1 << slot;
            }
        }

        void restore(int slot, Situation now) {
            if (isSaved(slot) && slot >= 0 && slot < slots.length && slots[slot] != null) {
                now.copyFrom(slots[slot]);
                size = 0;
            }
        }
    }

    /** What all tenants pay for the hour that begins. */
    private static final class Bills {
        private final Table due = new Table(MAX_TENANTS, 1);
        // How many regular instances of a tenant and a type are still to be covered.
        private final Table covers = new Table(MAX_TENANTS, MAX_TYPES);

        void reckon(Cloud cloud, Situation now) {
            due.clear();
            covers.clear();
            for (int k = 0; k < cloud.reservations.size; k++) {
                if (cloud.isActive(k, now.clock)) {
                    int tenant = cloud.reservations.get(k, TENANT);
                    due.add(tenant, 0, cloud.payment(k));
                    covers.add(tenant, cloud.reservations.get(k, TYPE), cloud.reservations.get(k, MANY));
                }
            }
            for (int k = 0; k < MAX_INSTANCES; k++) {
                if (now.runs(k)) {
                    addInstance(cloud, now, k);
                }
            }
        }

        void charge(Situation now) {
            for (int tenant = 0; tenant < MAX_TENANTS; tenant++) {
                now.charge(tenant, due.get(tenant, 0));
            }
        }

        private void addInstance(Cloud cloud, Situation now, int instance) {
            int tenant = now.instances.get(instance, TENANT);
            int type = now.instances.get(instance, TYPE);
            if (now.instances.get(instance, BID) != NONE) {
                due.add(tenant, 0, now.prices.get(type, 0));
            } else if (covers.get(tenant, type) > 0) {
                covers.add(tenant, type, -1);
            } else {
                due.add(tenant, 0, cloud.types.get(type, PRICE));
            }
        }
    }

    /** Goes through all rows of numbers from zeros up to a limit in each place. */
    private static final class Odometer {
        private final int[] digits = new int[MAX_TYPES];
        private final int[] limits = new int[MAX_TYPES];
        // The number of the present row, which is the sum of digits times strides.
        private int code = 0;

        void restart() {
            Arrays.fill(digits, 0);
            code = 0;
        }

        /** Returns whether there was a next row. */
        boolean step(int[] strides) {
            for (int k = 0; k < digits.length && k < limits.length && k < strides.length; k++) {
                if (digits[k] < limits[k]) {
                    digits[k]++;
                    code += strides[k];
                    return true;
                }
                code -= digits[k] * strides[k];
                digits[k] = 0;
            }
            return false;
        }
    }

    /**
     * The fewest hosts for all instances. Instances of one type are alike here, so that only their numbers
     * by type count: with 12 instances of 6 types there are at most 3 to the 6th such rows of numbers.
     */
    private static final class Packing {
        private static final int MAX_ROWS = 729;
        private static final int NEVER = 99;

        // For each row of numbers, the fewest of the hosts looked at so far that hold it.
        private final int[] fewest = new int[MAX_ROWS];
        private final int[] before = new int[MAX_ROWS];
        // What the instances of each row take.
        private final Table needs = new Table(MAX_ROWS, 2);
        private final int[] strides = new int[MAX_TYPES];
        // What the hosts before hold, and what is put on the next one.
        private final Odometer held = new Odometer();
        private final Odometer added = new Odometer();

        int fewestFor(Cloud cloud, Situation now) {
            int all = countTypes(now);
            if (all <= 0 || all >= fewest.length) {
                return 0;
            }
            addNeeds(cloud);
            Arrays.fill(fewest, NEVER);
            fewest[0] = 0;
            fewest[all] = now.hostsInUse();
            for (int host = 0; host < cloud.hosts.size; host++) {
                System.arraycopy(fewest, 0, before, 0, Math.min(fewest.length, before.length));
                held.restart();
                boolean more = true;
                for (int n = 0; n < MAX_ROWS && more; n++) {
                    addHost(cloud, host, all);
                    more = held.step(strides);
                }
            }
            return fewest[all];
        }

        /** Sets the limits of the rows to the numbers of running instances by type; returns the last row's code. */
        private int countTypes(Situation now) {
            int all = 0;
            int stride = 1;
            for (int type = 0; type < strides.length && type < held.limits.length; type++) {
                int many = now.manyOf(type);
                held.limits[type] = many;
                strides[type] = stride;
                all += many * stride;
                stride *= many + 1;
            }
            return all;
        }

        private void addNeeds(Cloud cloud) {
            held.restart();
            boolean more = true;
            for (int n = 0; n < MAX_ROWS && more; n++) {
                int cpu = 0;
                int memory = 0;
                for (int type = 0; type < held.digits.length; type++) {
                    cpu += held.digits[type] * cloud.types.get(type, CPU);
                    memory += held.digits[type] * cloud.types.get(type, MEMORY);
                }
                needs.set(held.code, CPU, cpu);
                needs.set(held.code, MEMORY, memory);
                more = held.step(strides);
            }
        }

        /** Puts on a host, beside what the hosts before it hold, all that fits it of the rest. */
        private void addHost(Cloud cloud, int host, int all) {
            int code = held.code;
            if (code < 0 || code >= before.length || all < 0 || all >= fewest.length) {
                return;
            }
            int many = before[code] + 1;
            if (many >= fewest[all]) {
                return;
            }
            for (int k = 0; k < added.limits.length && k < held.limits.length && k < held.digits.length; k++) {
                added.limits[k] = held.limits[k] - held.digits[k];
            }
            int cpu = cloud.hosts.get(host, CPU);
            int memory = cloud.hosts.get(host, MEMORY);
            added.restart();
            for (int n = 0; n < MAX_ROWS && added.step(strides); n++) {
                int both = code + added.code;
                boolean fit = needs.get(added.code, CPU) <= cpu && needs.get(added.code, MEMORY) <= memory;
                if (fit && both >= 0 && both < fewest.length) {
                    fewest[both] = Math.min(fewest[both], many);
                }
            }
        }
    }

    /** The cheapest set of spot instances to evict from a host. */
    private static final class Eviction {
        private static final int MORE_THAN_ALL = MAX_INSTANCES * MAX_PRICE + 1;

        // The column behind cpu, memory and bid.
        private static final int NUMBER = 3;

        // The spot instances of the host: what they take, their bids and their numbers.
        private final Table spots = new Table(MAX_INSTANCES, 4);
        private int best = NONE;
        private int bestBids = 0;

        int cheapest(Cloud cloud, Situation now, int host, int type) {
            spots.clear();
            best = NONE;
            bestBids = MORE_THAN_ALL;
            for (int k = 0; k < MAX_INSTANCES; k++) {
                boolean here = now.runs(k) && now.instances.get(k, HOST) == host;
                if (here && now.instances.get(k, BID) != NONE) {
                    addSpot(cloud, now, k);
                }
            }
            int cpu = cloud.types.get(type, CPU) - now.left(cloud, host, CPU);
            int memory = cloud.types.get(type, MEMORY) - now.left(cloud, host, MEMORY);
            choose(this, 0, 0, cpu, memory, 0);
            return best;
        }

        private void addSpot(Cloud cloud, Situation now, int instance) {
            int type = now.instances.get(instance, TYPE);
            int row = spots.size;
            spots.insertRow(row);
            spots.set(row, CPU, cloud.types.get(type, CPU));
            spots.set(row, MEMORY, cloud.types.get(type, MEMORY));
            spots.set(row, BID, now.instances.get(instance, BID));
            spots.set(row, NUMBER, instance);
        }

        /**
         * Decides on the spot instances from row k on, while so much cpu and memory is missing.
         * Bids are positive, so that nothing is gained by evicting more once enough is free.
         */
        private static void choose(Eviction search, int k, int set, int cpu, int memory, int bids) {
            if (bids > search.bestBids) {
                return;
            }
            if (cpu <= 0 && memory <= 0) {
                search.keep(set, bids);
                return;
            }
            Table spots = search.spots;
            if (!spots.has(k)) {
                return;
            }
            choose(search, k + 1, set | 1 << spots.get(k, NUMBER), cpu - spots.get(k, CPU),
                memory - spots.get(k, MEMORY), bids + spots.get(k, BID));
            choose(search, k + 1, set, cpu, memory, bids);
        }

        private void keep(int set, int bids) {
            int fewer = Integer.bitCount(best) - Integer.bitCount(set);
            if (best == NONE || bids < bestBids || fewer > 0 || fewer == 0 && set < best) {
                best = set;
                bestBids = bids;
            }
        }
    }

    /** Where the instances of a host go when it is drained. */
    private static final class Drainage {
        private final int[] movers = new int[MAX_DRAINED];
        private final int[] targets = new int[MAX_DRAINED];
        private int many = 0;
        // What is free on the hosts while targets are tried.
        private final Table rooms = new Table(MAX_HOSTS, 2);

        /** Finds the first assignment; returns whether there is one. The host has at most 5 instances. */
        boolean plan(Cloud cloud, Situation now, int host) {
            many = 0;
            for (int k = 0; k < MAX_INSTANCES; k++) {
                boolean here = now.runs(k) && now.instances.get(k, HOST) == host;
                if (here && many >= 0 && many < movers.length) {
                    movers[many] = k;
                    many++;
                }
            }
            for (int k = 0; k < cloud.hosts.size; k++) {
                // Nothing fits the drained host itself.
                rooms.set(k, CPU, k == host ? 0 : now.left(cloud, k, CPU));
                rooms.set(k, MEMORY, k == host ? 0 : now.left(cloud, k, MEMORY));
            }
            return place(this, cloud, now, 0);
        }

        int targetOf(int instance) {
            for (int k = 0; k < many && k < movers.length && k < targets.length; k++) {
                if (movers[k] == instance) {
                    return targets[k];
                }
            }
            return NONE;
        }

        void carryOut(Cloud cloud, Situation now) {
            for (int k = 0; k < many && k < movers.length && k < targets.length; k++) {
                now.moveTo(cloud, movers[k], targets[k]);
            }
        }

        /** Finds targets for the instances from position k on. */
        private static boolean place(Drainage search, Cloud cloud, Situation now, int k) {
            if (k < 0 || k >= search.many || k >= search.movers.length || k >= search.targets.length) {
                return true;
            }
            int type = now.instances.get(search.movers[k], TYPE);
            Table rooms = search.rooms;
            int cpu = cloud.types.get(type, CPU);
            int memory = cloud.types.get(type, MEMORY);
            for (int host = 0; host < cloud.hosts.size; host++) {
                if (cpu <= rooms.get(host, CPU) && memory <= rooms.get(host, MEMORY)) {
                    rooms.add(host, CPU, -cpu);
                    rooms.add(host, MEMORY, -memory);
                    search.targets[k] = host;
                    if (place(search, cloud, now, k + 1)) {
                        return true;
                    }
                    rooms.add(host, CPU, cpu);
                    rooms.add(host, MEMORY, memory);
                }
            }
            return false;
        }
    }
}
