/** The boundary cases of the cloud text and of promises 1 to 6, sentence by sentence. */
public final class TextEdgesTest {
    private static final Kit KIT = new Kit("TextEdgesTest");
    private static final String OWNER = "tenant 1;type 1 1 1;";

    public static void main(String[] args) {
        atMost800Bytes();
        everyByteAsASeparator();
        longestTokens();
        wordsLetterByLetter();
        invalidTokens();
        emptyCloud();
        everyBeginning();
        numbersInOrder();
        limits();
        onlyOnce();
        ranges();
        rangesHaveEffect();
        budgets();
        reservationRanges();
        declaredBefore();
        settings();
        settingsAreTaken();
        numbersInMove();
        names();
        overflow();
        division();
        ranks();
        atLeastZero();
        codes();
        codeFour();
        smallestPosition();
        smallestCode();
        positions();
        newObject();
        appendBytes();
        appendUntilFull();
        parseLength();
        parseFailure();
        parseSuccess();
        errorPosition();
        KIT.end();
    }

    /** A text of a given length, with blanks between its two parts. */
    private static String stretched(String head, String tail, int length) {
        return head + " ".repeat(length - head.length() - tail.length()) + tail;
    }

    // ---- tokens

    private static void atMost800Bytes() {
        KIT.says(0, "A cloud is described by a text of at most 800 bytes.");
        KIT.due("800 bytes", KIT.market(stretched("host 1 1;", "host 2 2;", 800)).hostCount(), 2);
        KIT.due("799 bytes", KIT.market(stretched("host 1 1;", "host 2 2;", 799)).hostCount(), 2);
        KIT.error(stretched("host 1 1;", "?", 800), 1, 799);
        KIT.error(stretched("host 1 1;", "host 2 2", 800), 1, 800);
        KIT.error(stretched("host 1 1;", "host 2 257", 800), 3, 797);
        CloudMarket x = new CloudMarket();
        Kit.fill(x, " ".repeat(800));
        KIT.due("not one byte more", x.append(0, 0, 0, 0, 0), -1);
        KIT.argument("not one byte more", () -> x.parse(801));
    }

    private static void everyByteAsASeparator() {
        KIT.says(0, "Spaces (byte 32) and line feeds (byte 10) separate tokens and are otherwise ignored.");
        for (int b = 0; b < 256; b++) {
            char c = (char) b;
            boolean blank = b == 10 || b == 32;
            boolean digit = b >= '0' && b <= '9';
            // With a digit between, the cpu is 102 to 192.
            answer("host 1" + c + "2;", blank ? 0 : digit ? 3 : 1, digit ? 5 : 6);
            answer(c + "host 1 2;", blank ? 0 : 1, 0);
            answer("host 1 2;" + c, blank ? 0 : 1, 9);
            answer("host 1 2" + c + ";", blank || digit ? 0 : 1, c == ';' ? 9 : 8);
            answer("ho" + c + "st 1 2;", 1, 0);
            boolean letter = b >= 'a' && b <= 'z';
            // With a 7, 8 or 9 before it, the cpu is 71 to 91.
            answer("host" + c + "1 2;", blank || digit && b < '7' ? 0 : digit ? 3 : 1, letter ? 0 : 4);
        }
        KIT.due("only blanks", KIT.market(" \n\n  \n").hostCount(), 0);
        KIT.due("many blanks", KIT.market("\n\n host \n 1 \n\n 2 \n ; \n").free(0, true), 2);
        KIT.error("host 12;", 1, 7);
    }

    /** Code 0 has no position. */
    private static void answer(String text, int code, int position) {
        KIT.error(text, code, code == 0 ? -1 : position);
    }

    private static void longestTokens() {
        KIT.says(0, "A token is a word (a maximal run of letters a to z, 1 to 8 letters), a number (a maximal run of "
            + "digits, 1 to 4 digits) or one of the characters ; ( ) + - * / .");
        KIT.due("a word ends at a digit", KIT.market("host1 2;tenant3;").hostCount(), 1);
        KIT.error("hosthost 1 2;", 1, 0);
        KIT.error("a 1 2;", 1, 0);
        KIT.error("abcdefgh 1 2;", 1, 0);
        KIT.error("move 2cpu;", 1, 6);
        KIT.error("move cpu2;", 1, 8);
        KIT.error("move cpuage;", 1, 5);
        KIT.due("a number of 1 digit", KIT.market("host 9 9;").free(0, false), 9);
        KIT.due("numbers of 4 digits", KIT.market("host 0064 0256;").free(0, true), 256);
        KIT.due("leading zeros", KIT.market("host 008 010;").free(0, true), 10);
        KIT.due("all characters", KIT.market("move(1+2)-3*4/5;").hostCount(), 0);
    }

    /** A word with any letter changed, left out or doubled is another word. */
    private static void wordsLetterByLetter() {
        String[] texts = {"host 1 1;", "type 1 1 1;", "tenant 1;", "reserve 0 0 1 0 1 0;", "floor 1;", "notice 1;",
            "slope 1;", "move 1;", "cpu;", "memory;", "price;", "age;"};
        for (String text : texts) {
            String word = text.split("[ ;]")[0];
            String tail = text.substring(word.length());
            String head = word.equals("reserve") ? OWNER : tail.equals(";") ? "move " : "";
            KIT.due(word, KIT.market(head + text).hostCount(), word.equals("host") ? 1 : 0);
            for (int k = 0; k < word.length(); k++) {
                String before = word.substring(0, k);
                String behind = word.substring(k + 1);
                KIT.error(head + before + (char) (word.charAt(k) + 1) + behind + tail, 1, head.length());
                KIT.error(head + before + (char) (word.charAt(k) - 1) + behind + tail, 1, head.length());
                KIT.error(head + before + behind + tail, 1, head.length());
                KIT.error(head + before + word.charAt(k) + word.charAt(k) + behind + tail, 1, head.length());
            }
        }
    }

    private static void invalidTokens() {
        KIT.says(0, "A longer run, and any other byte, is an invalid token.");
        KIT.error("abcdefghi 1 2;", 1, 0);
        KIT.error("host 00001 1;", 1, 5);
        KIT.error("host 1 00001;", 1, 7);
        KIT.error("tenant 00000;", 1, 7);
        KIT.error("tenant 10000;", 1, 7);
        // 2 to the 32nd and 2 to the 64th, which would be 0 if digits were summed without a look at the length.
        KIT.error("tenant 4294967296;", 1, 7);
        KIT.error("tenant 18446744073709551616;", 1, 7);
        KIT.error("tenant " + "0".repeat(700) + ";", 1, 7);
        KIT.error("a".repeat(800), 1, 0);
        KIT.error("tenant 1:", 1, 8);
    }

    // ---- grammar

    private static void emptyCloud() {
        KIT.says(0, "cloud = { statement \";\" }");
        KIT.due("no statement", KIT.market("").hostCount(), 0);
        KIT.due("one", KIT.market("host 1 1;").hostCount(), 1);
        KIT.error(";", 1, 0);
        KIT.error("host 1 1;;", 1, 9);
        KIT.error("host 1 1 host 1 1;", 1, 9);
        KIT.error("host 1 1", 1, 8);
    }

    /** Every beginning of a text that holds all statements ends too early, unless it ends behind a semicolon. */
    private static void everyBeginning() {
        KIT.says(0, "statement = \"host\" cpu memory | \"type\" cpu memory price | \"tenant\" budget | \"reserve\" tenant "
            + "type many from until percent | \"floor\" percent | \"notice\" hours | \"slope\" percent | \"move\" sum");
        everyBeginningOf("host 12 34;type 5 67 89;tenant 12;reserve 0 0 3 4 56 78;floor 9;notice 12;slope 34;"
            + "move cpu;");
        KIT.says(0, "sum = term { ( \"+\" | \"-\" ) term }");
        everyBeginningOf("move 1+2-3+cpu-4;");
        KIT.says(0, "term = factor { ( \"*\" | \"/\" ) factor }");
        everyBeginningOf("move 1*2/3*age/4;");
        KIT.says(0, "factor = number | \"cpu\" | \"memory\" | \"price\" | \"age\" | \"(\" sum \")\"");
        everyBeginningOf("move 12*(cpu+memory)-((price/34)-age);tenant 1;");
        KIT.error("move ();", 1, 6);
        KIT.error("move )1(;", 1, 5);
        KIT.error("move +1;", 1, 5);
        KIT.error("move 1+-2;", 1, 7);
        KIT.error("move 1 1;", 1, 7);
        KIT.error("move 1(1);", 1, 6);
        KIT.error("move (1)1;", 1, 8);
        KIT.error("move floor;", 1, 5);
    }

    private static void everyBeginningOf(String text) {
        boolean closed = true;
        int word = -1;
        for (int length = 0; length <= text.length(); length++) {
            char last = length == 0 ? ' ' : text.charAt(length - 1);
            char next = length == text.length() ? ' ' : text.charAt(length);
            if (last == ';') {
                closed = true;
            } else if (last != ' ') {
                closed = false;
            }
            boolean letter = last >= 'a' && last <= 'z';
            word = !letter ? -1 : word < 0 ? length - 1 : word;
            boolean cutsAWord = letter && next >= 'a' && next <= 'z';
            CloudMarket x = new CloudMarket();
            Kit.fill(x, text);
            KIT.due("code of the first " + length + " of " + text, x.parse(length), closed ? 0 : 1);
            KIT.due("position of the first " + length + " of " + text, x.errorPosition(),
                closed ? -1 : cutsAWord ? word : length);
        }
    }

    private static void numbersInOrder() {
        KIT.says(0, "Hosts, types, tenants and reservations are numbered from 0, each in the order of the text.");
        CloudMarket x = KIT.market("host 1 9;tenant 0;type 1 1 100;reserve 0 0 1 0 9 1;host 2 9;type 2 2 200;tenant 1;"
            + "reserve 1 0 1 0 9 0;host 3 9;type 3 3 300;tenant 2;floor 100;");
        for (int k = 0; k < 3; k++) {
            KIT.due("cpu of host " + k, x.free(k, false), k + 1);
            KIT.due("price of type " + k, x.spotPrice(k), 100 * (k + 1));
        }
        KIT.due("launch", x.launch(0, 0), 0);
        KIT.due("launch", x.launch(1, 0), 1);
        KIT.due("the first saves money", x.pays(0), true);
        KIT.due("the second does not", x.pays(1), false);
        KIT.due("pass", x.pass(1), 0);
        KIT.due("budget of the first", x.isOverBudget(0), true);
        KIT.due("budget of the second", x.isOverBudget(1), false);
        KIT.index("no fourth host", () -> x.free(3, false));
        KIT.index("no fourth type", () -> x.spotPrice(3));
        KIT.index("no fourth tenant", () -> x.spent(3));
        KIT.index("no third reservation", () -> x.pays(2) ? 1 : 0);
    }

    private static void limits() {
        KIT.says(0, "There are at most 8 hosts, 6 types, 6 tenants and 8 reservations.");
        StringBuilder all = new StringBuilder();
        for (int k = 0; k < 8; k++) {
            all.append("host ").append(k + 1).append(' ').append(k + 11).append(';');
        }
        KIT.error(all + "host 1 1;", 4, all.length());
        KIT.due("seven types more", Kit.parse(new CloudMarket(), all + "type 1 1 1;".repeat(7)), 4);
        for (int k = 0; k < 6; k++) {
            all.append("type 1 1 ").append(k + 1).append(';');
        }
        KIT.error(all + "type 1 1 1;", 4, all.length());
        for (int k = 0; k < 6; k++) {
            all.append("tenant ").append(k).append(';');
        }
        KIT.error(all + "tenant 1;", 4, all.length());
        for (int k = 0; k < 8; k++) {
            all.append("reserve 5 5 1 0 1 ").append(k).append(';');
        }
        KIT.error(all + "reserve 0 0 1 0 1 0;", 4, all.length());
        CloudMarket x = KIT.market(all + "floor 100;");
        KIT.due("the eighth host", x.free(7, true), 18);
        KIT.due("the sixth type", x.spotPrice(5), 6);
        KIT.due("the sixth tenant", x.hourlyBill(5), 6 + 7 * 5);
        KIT.due("the eighth reservation", x.pays(7), false);
        KIT.index("no ninth host", () -> x.free(8, true));
        KIT.index("no seventh type", () -> x.spotPrice(6));
        KIT.index("no seventh tenant", () -> x.spent(6));
        KIT.index("no ninth reservation", () -> x.pays(8) ? 1 : 0);
    }

    private static void onlyOnce() {
        KIT.says(0, "Each other statement can occur once.");
        String[] once = {"floor 1;", "notice 1;", "slope 1;", "move 1;"};
        for (String first : once) {
            for (String second : once) {
                answer(first + second, first.equals(second) ? 2 : 0, first.length());
            }
        }
        String four = once[0] + once[1] + once[2] + once[3];
        KIT.due("all four", KIT.market(four).hostCount(), 0);
        for (String again : once) {
            KIT.error(four + again, 2, four.length());
        }
        // The least values are statements as well.
        KIT.error("notice 0;notice 0;", 2, 9);
        KIT.error("slope 0;slope 0;", 2, 8);
        KIT.error("move 0;move 0;", 2, 7);
    }

    // ---- ranges

    /** A number in the place of # : the last that is allowed and the first that is not, on both sides. */
    private static void range(String text, int low, int high) {
        int at = text.indexOf('#');
        int[] values = {low - 1, low, low + 1, high - 1, high, high + 1};
        for (int value : values) {
            if (value >= 0) {
                boolean allowed = value >= low && value <= high;
                // A number of five digits is no token at all.
                answer(text.replace("#", String.valueOf(value)), allowed ? 0 : value > 9999 ? 1 : 3, at);
            }
        }
        KIT.error(text.replace("#", "-1"), 1, at);
        KIT.error(text.replace("#", "x"), 1, at);
        if (high < 9999) {
            KIT.error(text.replace("#", "9999"), 3, at);
        }
    }

    private static void ranges() {
        KIT.says(0, "Ranges: cpu is 1 to 64, memory 1 to 256, price 1 to 9999, budget 0 to 9999 (in hundreds: a "
            + "budget of 3 is 300).");
        range("host # 1;", 1, 64);
        range("host 1 #;", 1, 256);
        range("type # 1 1;", 1, 64);
        range("type 1 # 1;", 1, 256);
        range("type 1 1 #;", 1, 9999);
        range("tenant #;", 0, 9999);
    }

    private static void rangesHaveEffect() {
        CloudMarket x = KIT.market("host 64 256;host 1 1;type 64 256 9999;type 1 1 1;tenant 9999;floor 100;"
            + "move cpu*1000+memory;");
        KIT.due("most cpu", x.free(0, false), 64);
        KIT.due("most memory", x.free(0, true), 256);
        KIT.due("least cpu", x.free(1, false), 1);
        KIT.due("least memory", x.free(1, true), 1);
        KIT.due("highest price", x.spotPrice(0), 9999);
        KIT.due("lowest price", x.spotPrice(1), 1);
        KIT.due("the largest type", x.launch(0, 0), 0);
        KIT.due("the smallest type", x.launch(0, 1), 1);
        KIT.due("of the largest", x.migrationCost(0), 64256);
        KIT.due("of the smallest", x.migrationCost(1), 1001);
        KIT.due("bill", x.hourlyBill(0), 10000);
    }

    private static void budgets() {
        CloudMarket x = KIT.market("host 9 9;host 9 9;type 1 1 100;type 1 1 9999;tenant 3;tenant 0;tenant 9999;move 1;");
        KIT.due("launch", x.launch(0, 0), 0);
        KIT.due("launch", x.launch(2, 1), 1);
        KIT.due("pass", x.pass(3), 0);
        KIT.due("spent", x.spent(0), 300);
        KIT.due("300 of 300", x.isOverBudget(0), false);
        KIT.due("a budget of 0, nothing spent", x.isOverBudget(1), false);
        KIT.due("migrate", x.migrate(0, 1), 1);
        KIT.due("301 of 300", x.isOverBudget(0), true);
        KIT.due("pass", x.pass(97), 0);
        KIT.due("spent", x.spent(2), 999900);
        KIT.due("all of the largest budget", x.isOverBudget(2), false);
        KIT.due("migrate", x.migrate(1, 1), 1);
        KIT.due("one more", x.isOverBudget(2), true);
        CloudMarket y = KIT.market("host 9 9;host 9 9;type 1 1 1;tenant 0;move 1;");
        KIT.due("launch", y.launch(0, 0), 0);
        KIT.due("0 of 0", y.isOverBudget(0), false);
        KIT.due("migrate", y.migrate(0, 1), 1);
        KIT.due("1 of 0", y.isOverBudget(0), true);
    }

    private static void reservationRanges() {
        KIT.says(0, "tenant and type of reserve are numbers that were declared before; many is 1 to 9, from 0 to 9998, "
            + "until from + 1 to 9999, percent 0 to 100.");
        range(OWNER + "reserve 0 0 # 0 1 0;", 1, 9);
        range(OWNER + "reserve 0 0 1 # 9999 0;", 0, 9998);
        range(OWNER + "reserve 0 0 1 0 # 0;", 1, 9999);
        range(OWNER + "reserve 0 0 1 500 # 0;", 501, 9999);
        range(OWNER + "reserve 0 0 1 9998 # 0;", 9999, 9999);
        range(OWNER + "reserve 0 0 1 0 1 #;", 0, 100);
        // The from of this reservation counts, not that of an earlier one.
        range(OWNER + "reserve 0 0 1 700 800 0;reserve 0 0 1 500 # 0;", 501, 9999);
        range(OWNER + "reserve 0 0 1 500 # 0;reserve 0 0 1 700 800 0;", 501, 9999);
    }

    private static void declaredBefore() {
        String tenants = "tenant 1;".repeat(6);
        String types = "type 1 1 1;".repeat(6);
        range("type 1 1 1;reserve # 0 1 0 1 0;tenant 1;", 0, -1);
        range("tenant 1;reserve 0 # 1 0 1 0;type 1 1 1;", 0, -1);
        range(OWNER + "reserve # 0 1 0 1 0;tenant 1;", 0, 0);
        range(OWNER + "reserve 0 # 1 0 1 0;type 1 1 1;", 0, 0);
        range(tenants + types + "reserve # 0 1 0 1 0;", 0, 5);
        range(tenants + types + "reserve 0 # 1 0 1 0;", 0, 5);
    }

    private static void settings() {
        KIT.says(0, "The percent of floor is 1 to 100 (20 without the statement), hours of notice 0 to 48 (2 without it), "
            + "the percent of slope 0 to 400 (100 without it).");
        range("floor #;", 1, 100);
        range("notice #;", 0, 48);
        range("slope #;", 0, 400);
    }

    private static void settingsAreTaken() {
        set("", 20, 45, 3);
        set("floor 1;", 1, 26, 3);
        set("floor 100;", 100, 100, 3);
        set("notice 0;", 20, 45, 1);
        set("notice 48;", 20, 45, 49);
        set("slope 0;", 20, 20, 3);
        set("slope 319;", 20, 99, 3);
        set("slope 400;", 20, 100, 3);
        // What a text does not set is as without its statement, also after a text that has set it.
        CloudMarket x = KIT.market("floor 7;notice 7;slope 7;move 7;");
        KIT.due("parse", Kit.parse(x, "host 4 4;host 4 4;type 2 2 100;tenant 99;"), 0);
        look(x, 20, 45, 3);
    }

    private static void set(String text, int first, int loaded, int notice) {
        look(KIT.market(text + "host 4 4;host 4 4;type 2 2 100;tenant 99;"), first, loaded, notice);
    }

    /** The price of 100 without load and with a load of 25 percent, and the hour of a notice at hour 1. */
    private static void look(CloudMarket x, int first, int loaded, int notice) {
        KIT.due("price without load", x.spotPrice(0), first);
        KIT.due("bid", x.bid(0, 0, 9999), 1);
        KIT.due("pass", x.pass(1), 0);
        KIT.due("notice", x.evict(0), notice);
        KIT.due("undo", x.undo(), 2);
        KIT.due("pass", x.pass(1), 0);
        KIT.due("price with load", x.spotPrice(0), loaded);
    }

    private static void numbersInMove() {
        KIT.says(0, "A number in move is 0 to 9999; without this statement the sum is \"memory\".");
        range("move #;", 0, 9999);
        range("move 1+(2*#);", 0, 9999);
        cost("0", 0);
        cost("0000", 0);
        cost("9999", 9999);
        CloudMarket x = KIT.market("host 9 99;type 2 30 400;tenant 9;");
        KIT.due("launch", x.launch(0, 0), 0);
        KIT.due("the memory", x.migrationCost(0), 30);
    }

    // ---- sums

    /** The cost for an instance of 6 hours with cpu 2, memory 30 and price 400. */
    private static void cost(String sum, int want) {
        CloudMarket x = KIT.market("host 9 99;type 2 30 400;tenant 9;move " + sum + ";");
        x.launch(0, 0);
        x.pass(6);
        KIT.due("cost " + sum, x.migrationCost(0), want);
    }

    private static void names() {
        KIT.says(0, "A sum is evaluated for an instance: cpu, memory and price are those of its type, age is the number "
            + "of hours since it was started.");
        cost("cpu", 2);
        cost("memory", 30);
        cost("price", 400);
        cost("age", 6);
        CloudMarket x = KIT.market("host 9 9;type 1 1 1;type 2 3 4;tenant 9;move cpu*1000+memory*100+price*10+age;");
        KIT.due("pass", x.pass(5), 0);
        KIT.due("launch", x.launch(0, 0), 0);
        KIT.due("launch", x.launch(0, 1), 1);
        KIT.due("of one type, age 0", x.migrationCost(0), 1110);
        KIT.due("of another type, age 0", x.migrationCost(1), 2340);
        KIT.due("bid", x.bid(0, 0, 9999), 1);
        KIT.due("pass", x.pass(1), 0);
        KIT.due("age 1", x.migrationCost(0), 1111);
        KIT.due("a granted request is started in the hour that begins", x.migrationCost(2), 1110);
        KIT.due("pass", x.pass(8), 0);
        KIT.due("age 9", x.migrationCost(0), 1119);
        KIT.due("age 8", x.migrationCost(2), 1118);
        KIT.due("stop", x.stop(0), 0);
        KIT.due("launch", x.launch(0, 0), 0);
        KIT.due("a new one has a new age", x.migrationCost(0), 1110);
    }

    private static void overflow() {
        KIT.says(0, "Arithmetic is that of int with overflow; division truncates toward 0, and a division by 0 gives 0.");
        // 2 to the 31st is the least int, and one less the largest.
        cost("4096*4096*128", 0);
        cost("4096*4096*128-1", Integer.MAX_VALUE);
        cost("4096*4096*128-1+1", 0);
        cost("4096*4096*127+4096*4095+4095", Integer.MAX_VALUE);
        cost("4096*4096*127+4096*4095+4096", 0);
        cost("(4096*4096*127+4096*4096)/2", 0);
        cost("0-4096*4096*128-1", Integer.MAX_VALUE);
        cost("0-4096*4096*128", 0);
        cost("0-9999*9999*22", 2095407274);
        cost("9999*9999*22", 0);
        cost("0-9999*9999*21-9999*9999", 2095407274);
        cost("0-(9999*9999*21+9999*9999)", 2095407274);
        cost("9999*9999*43", 4172747);
        cost("4096*4096*256", 0);
        cost("4096*4096*256+7", 7);
        cost("(0-4096*4096*128)/(0-1)", 0);
        cost("(0-4096*4096*128)/(0-1)-1", Integer.MAX_VALUE);
        cost("(4096*4096*128-1)*(4096*4096*128-1)", 1);
    }

    private static void division() {
        cost("7/2", 3);
        cost("(0-7)/2+10", 7);
        cost("7/(0-2)+10", 7);
        cost("(0-7)/(0-2)", 3);
        cost("(0-1)/2+1", 1);
        cost("1/2", 0);
        cost("2/2", 1);
        cost("1/0", 0);
        cost("0/0+1", 1);
        cost("(0-5)/0+1", 1);
        cost("9/(1/2)+2", 2);
        cost("price/(cpu-2)+3", 3);
        cost("price/(age-6)+4", 4);
        cost("(4096*4096*128)/0+5", 5);
        cost("9/0*3+9/3", 3);
        cost("0/9+6", 6);
        CloudMarket x = KIT.market("host 9 9;type 1 1 1;tenant 9;move 6/age;");
        KIT.due("launch", x.launch(0, 0), 0);
        KIT.due("at age 0", x.migrationCost(0), 0);
        KIT.due("pass", x.pass(1), 0);
        KIT.due("at age 1", x.migrationCost(0), 6);
    }

    private static void ranks() {
        KIT.says(0, "Operators of the same rank are applied from left to right.");
        cost("10-3-2", 5);
        cost("10-3+2", 9);
        cost("10+3-2-1+5", 15);
        cost("100/7/2", 7);
        cost("100/7*2", 28);
        cost("2*7/4", 3);
        cost("7/2*2", 6);
        cost("64/4/4/2", 2);
        cost("1+2*3", 7);
        cost("10-4/2", 8);
        cost("2*3-4*5+20", 6);
        cost("20-2*3*2-1", 7);
        cost("10-(3-2)", 9);
        cost("100/(7/2)", 33);
        cost("(1+2)*(3+4)", 21);
        cost("9-(2-(3-(4-(5-(6)))))+1-1", 9 - (2 - (3 - (4 - (5 - 6)))));
        // The most that can stand open at once, and the longest sums.
        cost("1+1*(1+1*(1+1*(1+1*(1+1*(1+1*2)))))", 8);
        cost("1" + "+1".repeat(375), 376);
        cost("1" + "*1".repeat(375), 1);
        cost("9" + "-1+1".repeat(180), 9);
    }

    private static void atLeastZero() {
        KIT.says(0, "The cost of a migration of the instance is the value of the sum, but at least 0.");
        cost("memory-29", 1);
        cost("memory-30", 0);
        cost("memory-31", 0);
        cost("0-9999", 0);
        CloudMarket x = KIT.market("host 9 9;host 9 9;type 1 1 1;tenant 9;move 0-5;");
        KIT.due("launch", x.launch(0, 0), 0);
        KIT.due("nothing is paid back", x.migrate(0, 1), 0);
        KIT.due("spent", x.spent(0), 0);
    }

    // ---- errors

    private static void codes() {
        KIT.says(0, "Parse errors have these codes. 1: an invalid token, a token that the grammar does not allow at this "
            + "place, or a text that ends too early.");
        KIT.error("?", 1, 0);
        KIT.error("host 1 1;9", 1, 9);
        KIT.error("host 1 1;host", 1, 13);
        KIT.says(0, "2: the word of a second floor, notice, slope or move.");
        KIT.error("floor 1;floor", 2, 8);
        KIT.error("notice 1;notice ?", 2, 9);
        KIT.error("slope 1;slope 999;", 2, 8);
        KIT.error("move 1;move ((((((1;", 2, 7);
        KIT.says(0, "3: a number out of its range.");
        KIT.error("host 65", 3, 5);
        KIT.error("host 1 0 ?", 3, 7);
    }

    private static void codeFour() {
        KIT.says(0, "4: the word host, type, tenant or reserve of a statement beyond its limit, or a \"(\" while five "
            + "\"(\" are open.");
        KIT.error("host 1 1;".repeat(8) + "host", 4, 72);
        KIT.error("type 1 1 1;".repeat(6) + "type ?", 4, 66);
        KIT.error("tenant 1;".repeat(6) + "tenant;", 4, 54);
        KIT.error(OWNER + "reserve 0 0 1 0 1 0;".repeat(8) + "reserve 7", 4, 180);
        KIT.due("eight hosts, then another statement", KIT.market("host 1 1;".repeat(8) + OWNER).hostCount(), 8);
        cost("(((((7)))))", 7);
        KIT.error("move ((((((7))))));", 4, 10);
        KIT.error("move 1+(2*(3-(4/(5+(6*(", 4, 22);
        cost("1+(2*(3-(4/(5+(6*1)))))", 7);
        cost("(((((1)))))+(((((2)))))*(((((3)))))", 7);
        cost("((((1)+(2))))", 3);
        cost("(((((1))))+((1)))", 2);
        KIT.error("move (((((1)+((1))))));", 4, 14);
    }

    private static void smallestPosition() {
        KIT.says(0, "The error with the smallest position is reported.");
        KIT.error("host 65 0;?", 3, 5);
        KIT.error("host 64 0;?", 3, 8);
        KIT.error("host 64 1;?", 1, 10);
        KIT.error("floor 1;floor 0;host 0 0;", 2, 8);
        KIT.error("floor 1;host 0 0;floor 0;", 3, 13);
        KIT.error("host 1 1;".repeat(8) + "? host", 1, 72);
        KIT.error("host 1 1;".repeat(8) + "host ?", 4, 72);
        KIT.error("reserve 0 9 99 9999 0 999", 3, 8);
    }

    private static void smallestCode() {
        KIT.says(0, "If several codes apply at one position, the smallest is reported.");
        // A token that is not allowed there, and besides a second one, out of range or beyond a limit.
        KIT.error("floor 1;move floor", 1, 13);
        KIT.error("floor 1 floor 1;", 1, 8);
        KIT.error("host 1 1 9999;", 1, 9);
        KIT.error("host 99999 1;", 1, 5);
        KIT.error("host 1 1;".repeat(7) + "host 1 1 host", 1, 72);
        KIT.error("host 1 1;".repeat(8) + "floor host", 1, 78);
        KIT.error("move (((((1(", 1, 11);
        KIT.error("move (((((cpu(((((", 1, 13);
        KIT.error("(((((((", 1, 0);
    }

    private static void positions() {
        KIT.says(0, "The position of an error is the index of the first byte of its token; if the text ends too early, it "
            + "is the length of the text.");
        KIT.error("  \nhosts 1 1;", 1, 3);
        KIT.error("host 1   9999;", 3, 9);
        KIT.error("tenant 1;   123456789;", 1, 12);
        KIT.error("tenant", 1, 6);
        KIT.error("tenant   \n", 1, 10);
        KIT.error("tenant 1  ", 1, 10);
        KIT.error("move (", 1, 6);
        KIT.error("move (1", 1, 7);
        KIT.error(stretched("tenant", " ", 800), 1, 800);
        // The bytes behind the length are not of the text.
        CloudMarket x = new CloudMarket();
        Kit.fill(x, "tenant 1;tenant 2;");
        KIT.due("code", x.parse(15), 1);
        KIT.due("position", x.errorPosition(), 15);
    }

    // ---- promises

    private static void newObject() {
        KIT.says(1, "Creates a simulator of an empty cloud (no hosts, types, tenants and reservations, everything else as "
            + "without its statement) with an empty input buffer.");
        CloudMarket x = new CloudMarket();
        KIT.due("no hosts", x.hostCount(), 0);
        KIT.index("no host", () -> x.free(0, false));
        KIT.index("no type", () -> x.spotPrice(0));
        KIT.index("no tenant", () -> x.spent(0));
        KIT.index("no reservation", () -> x.pays(0) ? 1 : 0);
        KIT.index("no instance", () -> x.typeOf(0));
        KIT.due("no requests", x.waiting(), 0);
        KIT.due("clock", x.clock(), 0);
        KIT.due("nothing to undo", x.undo(), -1);
        KIT.state("no snapshot", () -> x.restoreSnapshot(0));
        KIT.state("no snapshot", () -> x.restoreSnapshot(1));
        KIT.argument("nothing in the buffer", () -> x.parse(1));
        KIT.due("the first bytes", x.append(0, 0, 0, 0, 0), 20);
        CloudMarket y = new CloudMarket();
        KIT.due("two objects are apart", y.append(0, 0, 0, 0, 0), 20);
        KIT.due("pass", y.pass(3), 0);
        KIT.due("clock of the other", x.clock(), 0);
    }

    private static void appendBytes() {
        KIT.says(2, "Appends 20 bytes to the input buffer: the four bytes of each argument, the most significant byte "
            + "first.");
        // A byte that is no token, in each place, among blanks; bytes above 127 are negative as Java's bytes.
        for (int place = 0; place < 20; place++) {
            for (int b : new int[] {0, 1, 63, 127, 128, 255}) {
                int[] w = {0x20202020, 0x20202020, 0x20202020, 0x20202020, 0x20202020};
                int shift = 24 - place % 4 * 8;
                w[place / 4] = w[place / 4] & ~(255 << shift) | b << shift;
                CloudMarket x = new CloudMarket();
                KIT.due("append", x.append(w[0], w[1], w[2], w[3], w[4]), 20);
                KIT.due("code of byte " + b, x.parse(20), 1);
                KIT.due("place of byte " + b, x.errorPosition(), place);
            }
        }
        CloudMarket x = new CloudMarket();
        KIT.due("append", x.append(-1, 0, 0, 0, 0), 20);
        KIT.due("append behind it", x.append(0, 0, 0, 0, 0), 40);
        KIT.due("parse", x.parse(40), 1);
        KIT.due("position", x.errorPosition(), 0);
    }

    private static void appendUntilFull() {
        KIT.says(2, "Returns the new length of the buffer; NONE, with nothing appended, if it would exceed 800.");
        CloudMarket x = new CloudMarket();
        for (int k = 1; k <= 40; k++) {
            KIT.due("append", x.append(0x20202020, 0x20202020, 0x20202020, 0x20202020, 0x20202020), 20 * k);
        }
        for (int k = 0; k < 3; k++) {
            KIT.due("full", x.append(-1, -1, -1, -1, -1), -1);
        }
        KIT.argument("no longer", () -> x.parse(801));
        KIT.argument("no longer", () -> x.parse(820));
        KIT.due("nothing was appended or written over", x.parse(800), 0);
        KIT.due("from the start again", x.append(0, 0, 0, 0, 0), 20);
    }

    private static void parseLength() {
        KIT.says(3, "Parses the first length bytes of the input buffer as a cloud text.");
        CloudMarket x = new CloudMarket();
        Kit.fill(x, "host 1 1;host 2 2;??");
        KIT.due("the first 18", x.parse(18), 0);
        KIT.due("hosts", x.hostCount(), 2);
        nothingBehindTheLength();
        KIT.says(3, "- `length`: 0 to the length of the buffer");
        CloudMarket y = KIT.market("host 1 1;");
        KIT.due("0 of an empty buffer", y.parse(0), 0);
        KIT.due("an empty cloud", y.hostCount(), 0);
        Kit.fill(y, "????????????????????");
        KIT.due("0 of a buffer of 20", y.parse(0), 0);
        KIT.due("it is emptied", y.append(0, 0, 0, 0, 0), 20);
        KIT.due("the whole buffer", y.parse(20), 1);
    }

    /** Neither the rest of the buffer nor an earlier text goes on with the last token, which would be too long then. */
    private static void nothingBehindTheLength() {
        for (String cut : new String[] {"host 4", "move age", "tenant", "host 1234", "move 1+(22"}) {
            char last = cut.charAt(cut.length() - 1);
            String more = String.valueOf(last).repeat(20);
            CloudMarket x = new CloudMarket();
            Kit.fill(x, cut + more);
            x.parse(cut.length());
            int position = cut.equals("host 1234") ? 5 : cut.length();
            KIT.due("end of [" + cut + "] before more of the buffer", x.errorPosition(), position);
            Kit.parse(x, more);
            KIT.due("position in a text of one run", x.errorPosition(), 0);
            Kit.parse(x, cut);
            KIT.due("end of [" + cut + "] after a longer text", x.errorPosition(), position);
        }
    }

    private static void parseFailure() {
        KIT.says(3, "On a parse error nothing changes except that the buffer is emptied; it is also empty after a "
            + "success.");
        String wrong = "host 9 9;host 9 9;type 9 9 9;tenant 0;tenant 0;floor 99;notice 9;slope 9;move 9;?";
        CloudMarket x = started();
        CloudMarket y = started();
        KIT.due("a wrong text", Kit.parse(x, wrong), 1);
        KIT.due("position", x.errorPosition(), wrong.length() - 1);
        KIT.due("the first bytes", x.append(0, 0, 0, 0, 0), 20);
        Look.same(KIT, "nothing else", Look.apartFromErrors(x), Look.apartFromErrors(y));
        KIT.due("the history", x.undo(), y.undo());
        KIT.due("the history", x.undo(), y.undo());
        Look.same(KIT, "after undo", Look.apartFromErrors(x), Look.apartFromErrors(y));
        KIT.due("the slot", x.restoreSnapshot(1), y.restoreSnapshot(1));
        Look.same(KIT, "after restore", Look.apartFromErrors(x), Look.apartFromErrors(y));
        KIT.state("the empty slot", () -> x.restoreSnapshot(0));
        KIT.says(3, "Returns 0 on success; the code of the parse error.");
        CloudMarket z = new CloudMarket();
        KIT.due("code", Kit.parse(z, "host 1 1"), 1);
        KIT.due("code", Kit.parse(z, "floor 1;floor"), 2);
        KIT.due("code", Kit.parse(z, "floor 0"), 3);
        KIT.due("code", Kit.parse(z, "move (((((("), 4);
        KIT.due("success", Kit.parse(z, "floor 1;"), 0);
    }

    private static CloudMarket started() {
        CloudMarket x = KIT.market("host 4 4;host 5 5;type 1 1 100;tenant 9;floor 50;notice 3;slope 50;move 7;"
            + "reserve 0 0 1 0 9 9;");
        KIT.due("launch", x.launch(0, 0), 0);
        KIT.due("bid", x.bid(0, 0, 90), 1);
        KIT.due("bid", x.bid(0, 0, 10), 2);
        KIT.due("pass", x.pass(1), 0);
        KIT.due("save", x.saveSnapshot(1), false);
        KIT.due("evict", x.evict(1), 4);
        KIT.due("pass", x.pass(1), 0);
        return x;
    }

    private static void parseSuccess() {
        KIT.says(3, "On success the described cloud replaces the current one.");
        CloudMarket x = started();
        KIT.due("a right text", Kit.parse(x, "host 3 6;type 1 2 200;type 1 3 300;"), 0);
        Look.same(KIT, "as if it were the first", Look.of(x), Look.of(KIT.market("host 3 6;type 1 2 200;type 1 3 300;")));
        KIT.index("no second host", () -> x.free(1, true));
        KIT.index("no tenant", () -> x.spent(0));
        KIT.due("nothing to undo", x.undo(), -1);
        KIT.state("no snapshot", () -> x.restoreSnapshot(1));
        CloudMarket y = started();
        KIT.due("the empty text", y.parse(0), 0);
        Look.same(KIT, "as new", Look.of(y), Look.of(new CloudMarket()));
        fromLargeToSmall();
    }

    /** Nothing of a cloud with the most of everything is left in one with little. */
    private static void fromLargeToSmall() {
        String small = "host 2 2;host 1 1;type 1 1 100;type 1 1 50;tenant 9;";
        CloudMarket x = KIT.market("host 64 256;".repeat(8) + "type 1 1 9999;".repeat(6) + "tenant 9999;".repeat(6)
            + "reserve 0 0 9 0 9999 0;".repeat(8) + "floor 100;notice 48;slope 400;move price*9;");
        for (int k = 0; k < 5; k++) {
            KIT.due("launch", x.launch(0, k), k);
        }
        KIT.due("pass", x.pass(1), 0);
        KIT.due("goes", x.drainTo(0, 0), 1);
        KIT.due("parse", Kit.parse(x, small), 0);
        CloudMarket y = KIT.market(small);
        for (int k = 0; k < 3; k++) {
            KIT.due("launch", x.launch(0, k % 2), k);
            KIT.due("launch", y.launch(0, k % 2), k);
        }
        Look.same(KIT, "as if it were the first", Look.of(x), Look.of(y));
        KIT.due("no third host to go to", x.drainTo(1, x.hostOf(0) == 1 ? 0 : 1), -1);
        KIT.due("room", x.room(0), 0);
        KIT.due("pass", x.pass(1), 0);
        KIT.due("pass", y.pass(1), 0);
        Look.same(KIT, "as if it were the first", Look.of(x), Look.of(y));
    }

    private static void errorPosition() {
        KIT.says(4, "Returns the position of the parse error of the last call of parse that did not throw an exception.");
        CloudMarket x = new CloudMarket();
        KIT.due("code", Kit.parse(x, "host 1 ?"), 1);
        KIT.due("position", x.errorPosition(), 7);
        KIT.argument("a throw", () -> x.parse(1));
        KIT.due("as before", x.errorPosition(), 7);
        KIT.due("code", Kit.parse(x, "?"), 1);
        KIT.due("position", x.errorPosition(), 0);
        KIT.due("append", x.append(0, 0, 0, 0, 0), 20);
        KIT.argument("a throw", () -> x.parse(-1));
        KIT.due("as before", x.errorPosition(), 0);
        KIT.says(4, "Returns the position; NONE if that call succeeded or there was none.");
        KIT.due("no call", new CloudMarket().errorPosition(), -1);
        KIT.due("success", x.parse(0), 0);
        KIT.due("none", x.errorPosition(), -1);
        KIT.argument("a throw", () -> x.parse(1));
        KIT.due("none", x.errorPosition(), -1);
        CloudMarket y = new CloudMarket();
        KIT.argument("a throw", () -> y.parse(1));
        KIT.due("none", y.errorPosition(), -1);
    }
}
