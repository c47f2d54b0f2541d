/**
 * A carpet for eleven: sellers of kinds who are bid to, cup by cup, by a rule of texts.
 * Nothing here throws: whatever is refused is answered by a number below 0.
 */
public final class CarpetEleven {
    public static final int NONE = -1, BAD = -2, STATE = -3, FULL = -4;
    public static final long NO = -4611686018427387904L;

    private static final int NOTHING = -11, OUTSIDE = -12, UNLIKE = -13, BELOW = -14;
    private static final int OPEN = 0, SOLD = 1, GONE = 2;
    private static final int SELLERS = 6, KINDS = 6, TEXTS = 6, LETTERS = 160;
    private static final int SHEETS = 4, ITEMS = 40, SORTS = 3, MISSING = -1;
    private static final int TOP_NUMBER = 1999, TOP_PULL = 99, TOP_COST = 999;
    private static final int TOP_SHOES = 9, TOP_HOUR = 23, TOP_TENTHS = 10;
    private static final int WORDS_IN_THOUGHT = 30, TOP_SEEDS = 30, FAULT_BASE = -100;
    private static final String TEXT_0 =
            "least cost + shoes * 2 - ( hour < 9 ) * 10 ; first 2 * cost + shoes * 20 ; pull 0 ;";

    private final Kind[] kinds = new Kind[KINDS];
    private final Seller[] folk = new Seller[SELLERS];
    private final Scene scene;
    private final Text[] texts = new Text[TEXTS];
    private final Tape tape = new Tape();
    private final Sheet[] sheets = new Sheet[SHEETS];
    private int folkCount = 0;
    private int textCount = 0;

    // What is only thought of is played with these, so that no call makes objects for it.
    private final Seller thought;
    private final Seller[] crowd = new Seller[SELLERS];
    private final Scene thoughtScene;

    private final Seller[] keptFolk = new Seller[SELLERS];
    private final Scene keptScene;
    private int keptCount = NONE;

    public CarpetEleven() {
        kinds[0] = new Kind();
        kinds[1] = new Halver();
        kinds[2] = new Stiff();
        kinds[3] = new Slip();
        kinds[4] = new Brother();
        kinds[5] = new Eager();
        for (int i = 0; i < SELLERS; i++) {
            folk[i] = new Seller(kinds[0]);
            crowd[i] = new Seller(kinds[0]);
            keptFolk[i] = new Seller(kinds[0]);
        }
        thought = new Seller(kinds[0]);
        for (int i = 0; i < SHEETS; i++) {
            sheets[i] = new Sheet();
        }
        for (int i = 0; i < TEXT_0.length(); i++) {
            tape.add(TEXT_0.charAt(i));
        }
        tape.read();
        texts[0] = tape.made();
        textCount = 1;
        scene = new Scene(texts[0]);
        thoughtScene = new Scene(texts[0]);
        keptScene = new Scene(texts[0]);
    }

    // ---- sellers

    public int seller(int kind, int what) {
        return comes(kind, what);
    }

    public int set(int what, int of, int v) {
        if (what == 3) {
            return setCost(of, v);
        }
        if (what < 0 || what > 3 || v < 0 || v > topOf(what)) {
            return BAD;
        }
        int was;
        if (what == 0) {
            was = scene.shoes;
            scene.shoes = v;
        } else if (what == 1) {
            was = scene.hour;
            scene.hour = v;
        } else {
            was = scene.limit;
            scene.limit = v;
        }
        return was;
    }

    public int anew(int seller) {
        if (!isSeller(seller)) {
            return BAD;
        }
        folk[seller].begin(scene);
        return folk[seller].said;
    }

    public int told(int seller, int what) {
        if (!isSeller(seller)) {
            return BAD;
        }
        Seller who = folk[seller];
        switch (what) {
            case 0: return who.kindNumber;
            case 1: return who.cost;
            case 2: return who.number;
            case 3: return who.said;
            case 4: return who.cups;
            case 5: return who.stands;
            case 6: return who.price;
            case 7: return scene.least(who, 0);
            case 8: return who.kind.stays(who.number);
            default: return BAD;
        }
    }

    // ---- texts

    public int feed(int letter) {
        if (letter < 0 || letter > 255) {
            return BAD;
        }
        if (tape.size >= LETTERS) {
            return FULL;
        }
        tape.add(letter);
        return tape.size;
    }

    public int text() {
        if (textCount >= TEXTS) {
            return FULL;
        }
        int fault = tape.read();
        if (fault != NONE) {
            return FAULT_BASE - fault;
        }
        texts[textCount] = tape.made();
        textCount++;
        return textCount - 1;
    }

    public int force(int text) {
        if (text < 0 || text >= textCount) {
            return BAD;
        }
        int was = scene.textNumber;
        scene.textNumber = text;
        scene.text = texts[text];
        return was;
    }

    // ---- words

    public int word(int seller, int bid) {
        if (!isSeller(seller) || !isBid(bid)) {
            return BAD;
        }
        if (folk[seller].stands != OPEN) {
            return STATE;
        }
        folk[seller].hear(bid, scene);
        return folk[seller].stands;
    }

    public int agree(int seller) {
        if (!isSeller(seller)) {
            return BAD;
        }
        if (folk[seller].stands != OPEN) {
            return STATE;
        }
        folk[seller].sellAt(folk[seller].said);
        return folk[seller].price;
    }

    public int rule(int seller, int a, int p, int what) {
        if (!isSeller(seller) || !isRule(a, p) || what < 0 || what > 2) {
            return BAD;
        }
        Seller end = endByRule(seller, a, p);
        return what == 0 ? end.stands : what == 1 ? end.price : end.cups;
    }

    // ---- what would be best

    public int bestRule(int seller, int what) {
        if (!isSeller(seller) || what < 0 || what > 2) {
            return BAD;
        }
        if (folk[seller].stands != OPEN) {
            return NONE;
        }
        int rule = NONE;
        int price = NONE;
        int cups = NONE;
        for (int a = 0; a <= 400; a += 20) {
            for (int p = 0; p <= TOP_TENTHS; p++) {
                Seller end = endByRule(seller, a, p);
                if (end.stands == SOLD && (rule == NONE || end.price < price
                        || end.price == price && end.cups < cups)) {
                    rule = 100 * a + p;
                    price = end.price;
                    cups = end.cups;
                }
            }
        }
        return what == 0 ? rule : what == 1 ? price : cups;
    }

    public int bestAt(int seller, int a, int p, int what) {
        if (!isSeller(seller) || !isRule(a, p) || what < 0 || what > 1) {
            return BAD;
        }
        thoughtScene.take(scene);
        int best = NONE;
        int price = NONE;
        for (int v = 0; v <= topOf(what); v++) {
            if (what == 0) {
                thoughtScene.shoes = v;
            } else {
                thoughtScene.hour = v;
            }
            thought.take(folk[seller]);
            thought.begin(thoughtScene);
            thought.goByRule(a, p, thoughtScene);
            if (thought.stands == SOLD && (best == NONE || thought.price < price)) {
                best = v;
                price = thought.price;
            }
        }
        return best;
    }

    public int whom(int a, int p) {
        if (!isRule(a, p)) {
            return BAD;
        }
        int best = NONE;
        int price = NONE;
        for (int i = 0; i < folkCount && i < SELLERS; i++) {
            if (folk[i].stands == OPEN) {
                Seller end = endByRule(i, a, p);
                if (end.stands == SOLD && (best == NONE || end.price < price)) {
                    best = i;
                    price = end.price;
                }
            }
        }
        return best;
    }

    public int allInTurn(int a, int p, int what) {
        if (!isRule(a, p) || what < 0 || what > 1) {
            return BAD;
        }
        int price = NONE;
        int words = 0;
        for (int i = 0; i < folkCount && i < SELLERS && price == NONE; i++) {
            if (folk[i].stands == OPEN) {
                Seller end = endByRule(i, a, p);
                words += end.cups - folk[i].cups;
                price = end.price;
            }
        }
        return what == 0 ? price : words;
    }

    public int hisCost(int seller, int sheet, int what) {
        if (!isSeller(seller) || !isSheet(sheet) || what < 0 || what > 2) {
            return BAD;
        }
        if (sheets[sheet].isMissing()) {
            return NOTHING;
        }
        if (sheets[sheet].size % 2 != 0) {
            return BAD;
        }
        int many = 0;
        int least = NONE;
        int greatest = NONE;
        for (int cost = 0; cost <= TOP_COST; cost++) {
            if (saysSo(seller, cost, sheets[sheet])) {
                many++;
                greatest = cost;
                if (least == NONE) {
                    least = cost;
                }
            }
        }
        return what == 0 ? many : what == 1 ? least : greatest;
    }

    public int slipped(int seller, int a, int p) {
        if (!isSeller(seller) || !isRule(a, p)) {
            return BAD;
        }
        thought.take(folk[seller]);
        thought.kind = kinds[3];
        thought.begin(scene);
        thought.goByRule(a, p, scene);
        return thought.price;
    }

    public int market(int sheet, int a, int p, int what) {
        if (!isSheet(sheet) || !isRule(a, p) || what < 0 || what > 2) {
            return BAD;
        }
        Sheet limits = sheets[sheet];
        if (limits.isMissing()) {
            return NOTHING;
        }
        for (int i = 0; i < folkCount && i < SELLERS; i++) {
            crowd[i].take(folk[i]);
        }
        thoughtScene.take(scene);
        int sold = 0;
        int prices = 0;
        int missed = 0;
        for (int i = 0; i < limits.size; i++) {
            thoughtScene.limit = within(limits.at(i), 0, TOP_NUMBER);
            boolean hoped = crowdHasHope();
            int price = crowdSells(a, p);
            if (price != NONE) {
                sold++;
                prices += price;
            } else if (hoped) {
                missed++;
            }
        }
        return what == 0 ? sold : what == 1 ? prices : missed;
    }

    public int judge(int seller, int sheet) {
        if (!isSeller(seller) || !isSheet(sheet)) {
            return BAD;
        }
        Sheet bids = sheets[sheet];
        if (bids.isMissing()) {
            return NOTHING;
        }
        thought.take(folk[seller]);
        for (int i = 0; i < bids.size; i++) {
            if (thought.stands != OPEN || !isBid(bids.at(i))) {
                return i;
            }
            thought.hear(bids.at(i), scene);
        }
        return NONE;
    }

    public int drawn(int seller, int seed) {
        if (!isSeller(seller)) {
            return BAD;
        }
        return standsBySeed(seller, seed);
    }

    public long odds(int seller, int seed, int many, int part) {
        if (!isSeller(seller) || many < 1 || many > TOP_SEEDS || part < 0 || part > 1) {
            return NO;
        }
        int sold = 0;
        for (int i = 0; i < many; i++) {
            if (standsBySeed(seller, seed + i) == SOLD) {
                sold++;
            }
        }
        int common = commonDivisor(many, sold);
        return part == 0 ? sold / common : many / common;
    }

    public int image() {
        for (int i = 0; i < folkCount && i < SELLERS; i++) {
            keptFolk[i].take(folk[i]);
        }
        keptScene.take(scene);
        keptCount = folkCount;
        return howMany(OPEN);
    }

    public int back() {
        if (keptCount == NONE) {
            return STATE;
        }
        for (int i = 0; i < keptCount && i < SELLERS; i++) {
            folk[i].takeTalk(keptFolk[i]);
        }
        scene.take(keptScene);
        return howMany(OPEN);
    }

    public int count(int what) {
        switch (what) {
            case 0: return folkCount;
            case 1: return howMany(OPEN);
            case 2: return howMany(SOLD);
            case 3: return scene.shoes;
            case 4: return scene.hour;
            case 5: return scene.limit;
            case 6: return textCount;
            case 7: return tape.size;
            case 8: return scene.textNumber;
            default: return BAD;
        }
    }

    // ---- the host

    public int sheet(int sheet, int sort, int n) {
        if (!isSheet(sheet) || sort < MISSING || sort >= SORTS) {
            return BAD;
        }
        if (sort == MISSING) {
            sheets[sheet].become(MISSING, 0);
            return 1;
        }
        if (n > ITEMS) {
            return BAD;
        }
        if (n < 0) {
            return BELOW;
        }
        sheets[sheet].become(sort, n);
        return 1;
    }

    public int cell(int sheet, int i, int v) {
        if (!isSheet(sheet)) {
            return BAD;
        }
        if (sheets[sheet].isMissing()) {
            return NOTHING;
        }
        if (!sheets[sheet].has(i)) {
            return OUTSIDE;
        }
        sheets[sheet].put(i, v);
        return 1;
    }

    public int copy(int sheet, int i, int other, int j, int n) {
        if (!isSheet(sheet) || !isSheet(other)) {
            return BAD;
        }
        Sheet from = sheets[sheet];
        Sheet to = sheets[other];
        if (from.isMissing() || to.isMissing()) {
            return NOTHING;
        }
        if (from.sort != to.sort) {
            return UNLIKE;
        }
        if (!from.hasRun(i, n) || !to.hasRun(j, n)) {
            return OUTSIDE;
        }
        System.arraycopy(from.items, i, to.items, j, n);
        return n;
    }

    public int sellers(int sheet, int sort, int from, int n) {
        if (!isSheet(sheet) || sort < 0 || sort >= SORTS || n < 0 || n > SELLERS) {
            return BAD;
        }
        Sheet row = sheets[sheet];
        if (row.isMissing()) {
            return NOTHING;
        }
        if (row.sort != sort) {
            return UNLIKE;
        }
        int came = 0;
        for (int k = 0; k < n; k++) {
            int i = from + 2 * k;
            if (!row.has(i) || !row.has(i + 1)) {
                return OUTSIDE;
            }
            if (comes(row.at(i), row.at(i + 1)) >= 0) {
                came++;
            }
        }
        return came;
    }

    public int taken(int seller, int k) {
        if (k < 0 || k >= KINDS) {
            return BAD;
        }
        if (!isSeller(seller)) {
            return NOTHING;
        }
        return isUnder(folk[seller].kind, k) ? folk[seller].number : UNLIKE;
    }

    // ---- what the calls share

    private boolean isSeller(int seller) {
        return seller >= 0 && seller < folkCount && seller < SELLERS;
    }

    private static boolean isSheet(int sheet) {
        return sheet >= 0 && sheet < SHEETS;
    }

    private static boolean isBid(int bid) {
        return bid >= 0 && bid <= TOP_NUMBER;
    }

    private static boolean isRule(int a, int p) {
        return a >= 0 && a <= TOP_NUMBER && p >= 0 && p <= TOP_TENTHS;
    }

    private static int topOf(int what) {
        return what == 0 ? TOP_SHOES : what == 1 ? TOP_HOUR : TOP_NUMBER;
    }

    private static int within(int v, int low, int high) {
        return Math.max(low, Math.min(v, high));
    }

    private static int commonDivisor(int a, int b) {
        int x = a;
        int y = b;
        for (int i = 0; i < 64 && y != 0; i++) {
            int rest = x % y;
            x = y;
            y = rest;
        }
        return Math.max(1, x);
    }

    private static boolean isUnder(Kind kind, int k) {
        switch (k) {
            case 0: return true;
            case 1: return kind instanceof Halver;
            case 2: return kind instanceof Stiff;
            case 3: return kind instanceof Slip;
            case 4: return kind instanceof Brother;
            case 5: return kind instanceof Eager;
            default: return false;
        }
    }

    private int comes(int kind, int what) {
        if (kind < 0 || kind >= KINDS || what < 0 || what > 10 * TOP_COST + 9) {
            return BAD;
        }
        if (folkCount >= SELLERS) {
            return FULL;
        }
        Seller who = folk[folkCount];
        who.kind = kinds[kind];
        who.kindNumber = kind;
        who.cost = what / 10;
        who.number = what % 10;
        who.begin(scene);
        folkCount++;
        return folkCount - 1;
    }

    private int setCost(int seller, int cost) {
        if (!isSeller(seller) || cost < 0 || cost > TOP_COST) {
            return BAD;
        }
        int was = folk[seller].cost;
        folk[seller].cost = cost;
        folk[seller].begin(scene);
        return was;
    }

    private int howMany(int stands) {
        int many = 0;
        for (int i = 0; i < folkCount && i < SELLERS; i++) {
            if (folk[i].stands == stands) {
                many++;
            }
        }
        return many;
    }

    /** The seller must be one; what is answered holds till the next thought. */
    private Seller endByRule(int seller, int a, int p) {
        thought.take(folk[seller]);
        thought.goByRule(a, p, scene);
        return thought;
    }

    /** Whether the seller, were this his cost, would say just what the rows tell. */
    private boolean saysSo(int seller, int cost, Sheet rows) {
        thought.take(folk[seller]);
        thought.cost = cost;
        thought.begin(scene);
        for (int i = 0; i + 1 < rows.size; i += 2) {
            // A bid that is none could be no word to him, so no cost explains it.
            if (!isBid(rows.at(i))) {
                return false;
            }
            thought.hear(rows.at(i), scene);
            if (thought.stands != OPEN || thought.said != rows.at(i + 1)) {
                return false;
            }
        }
        return true;
    }

    /** Whether one of the crowd who stands open would take the buyer's limit. */
    private boolean crowdHasHope() {
        for (int i = 0; i < folkCount && i < SELLERS; i++) {
            if (crowd[i].stands == OPEN
                    && thoughtScene.least(crowd[i], 0) <= thoughtScene.limit) {
                return true;
            }
        }
        return false;
    }

    /** One buyer goes round the crowd: the price that he pays, or NONE. */
    private int crowdSells(int a, int p) {
        for (int i = 0; i < folkCount && i < SELLERS; i++) {
            if (crowd[i].stands == OPEN) {
                crowd[i].goByRule(a, p, thoughtScene);
                if (crowd[i].stands == SOLD) {
                    return crowd[i].price;
                }
            }
        }
        return NONE;
    }

    private int standsBySeed(int seller, int seed) {
        thought.take(folk[seller]);
        int z = seed;
        for (int i = 0; i < WORDS_IN_THOUGHT && thought.stands == OPEN; i++) {
            z = z * 1103515245 + 12345;
            thought.hear((z >>> 11) % 400, scene);
        }
        return thought.stands;
    }

    // ---- the kinds: each is told by what it does unlike the one that it is under

    private static class Kind {
        int steps(int said, int bid, int cup, int number, int hour) {
            return (said - bid) / 4;
        }

        boolean takes(int bid, int cup, int said, int least, int next) {
            return bid >= least && bid >= next;
        }

        int stays(int number) {
            return 4 + number;
        }
    }

    private static class Halver extends Kind {
        int steps(int said, int bid, int cup, int number, int hour) {
            return 2 * super.steps(said, bid, cup, number, hour);
        }

        int stays(int number) {
            return super.stays(number) + 1;
        }
    }

    private static class Stiff extends Kind {
        int steps(int said, int bid, int cup, int number, int hour) {
            return Math.min(super.steps(said, bid, cup, number, hour), number + 1);
        }

        int stays(int number) {
            return super.stays(number) / 2;
        }
    }

    private static final class Slip extends Stiff {
        int steps(int said, int bid, int cup, int number, int hour) {
            return 0;
        }

        boolean takes(int bid, int cup, int said, int least, int next) {
            return bid >= said;
        }

        int stays(int number) {
            return super.stays(number) + 1;
        }
    }

    private static final class Brother extends Halver {
        int steps(int said, int bid, int cup, int number, int hour) {
            return super.steps(said, bid, cup, number, hour) + (cup == 3 ? 10 * number : 0);
        }

        boolean takes(int bid, int cup, int said, int least, int next) {
            return super.takes(bid, cup, said, least, next) || bid >= least && cup > 3;
        }
    }

    private static final class Eager extends Halver {
        int steps(int said, int bid, int cup, int number, int hour) {
            return super.steps(said, bid, cup, number, hour) + hour;
        }

        boolean takes(int bid, int cup, int said, int least, int next) {
            return bid >= least;
        }

        int stays(int number) {
            return 2 * super.stays(number);
        }
    }

    /** One seller and how far the talk with him has come. */
    private static final class Seller {
        Kind kind;
        int kindNumber = 0;
        int cost = 0;
        int number = 0;
        int said = 0;
        int cups = 0;
        int stands = OPEN;
        int price = NONE;

        Seller(Kind kind) {
            this.kind = kind;
        }

        void take(Seller other) {
            kind = other.kind;
            kindNumber = other.kindNumber;
            cost = other.cost;
            number = other.number;
            takeTalk(other);
        }

        void takeTalk(Seller other) {
            said = other.said;
            cups = other.cups;
            stands = other.stands;
            price = other.price;
        }

        void begin(Scene scene) {
            // The texts read said and cups from here, and at first both are 0.
            said = 0;
            cups = 0;
            stands = OPEN;
            price = NONE;
            said = scene.first(this);
        }

        void sellAt(int at) {
            stands = SOLD;
            price = at;
        }

        void hear(int bid, Scene scene) {
            cups++;
            int least = scene.least(this, bid);
            int next = said;
            if (bid < said) {
                next -= kind.steps(said, bid, cups, number, scene.hour);
            }
            if (cups == 1) {
                next += scene.pull(this, bid);
            }
            next = Math.min(Math.max(next, least), said);
            if (kind.takes(bid, cups, said, least, next)) {
                sellAt(bid);
            } else if (cups >= kind.stays(number)) {
                stands = GONE;
            } else {
                said = next;
            }
        }

        void goByRule(int a, int p, Scene scene) {
            int bid = Math.min(a, scene.limit);
            for (int i = 0; i < WORDS_IN_THOUGHT && stands == OPEN; i++) {
                if (i > 0 && said > bid) {
                    bid = Math.min(bid + p * (said - bid) / 10, scene.limit);
                }
                if (bid >= said) {
                    sellAt(said);
                } else {
                    hear(bid, scene);
                }
            }
        }
    }

    /** What is the same for all sellers. */
    private static final class Scene {
        int shoes = 4;
        int hour = 12;
        int limit = 250;
        int textNumber = 0;
        Text text;

        Scene(Text text) {
            this.text = text;
        }

        void take(Scene other) {
            shoes = other.shoes;
            hour = other.hour;
            limit = other.limit;
            textNumber = other.textNumber;
            text = other.text;
        }

        int least(Seller who, int bid) {
            return within(text.value(0, text.leastEnd, who, this, bid), 0, TOP_NUMBER);
        }

        int first(Seller who) {
            int said = text.value(text.leastEnd, text.firstEnd, who, this, 0);
            return within(said, least(who, 0), TOP_NUMBER);
        }

        int pull(Seller who, int bid) {
            int more = text.value(text.firstEnd, text.code.length, who, this, bid);
            return within(more, 0, TOP_PULL);
        }
    }

    /** A text as steps for a stack: what is 0 or more is a number, else a name or a sign. */
    private static final class Text {
        static final int COST = -1, SHOES = -2, HOUR = -3, BID = -4, SAID = -5, CUPS = -6;
        static final int NOT = -7, NEGATE = -8;
        static final int OR = -9, AND = -10, LESS = -11, EQUAL = -12;
        static final int PLUS = -13, MINUS = -14, TIMES = -15;

        final int[] code;
        final int leastEnd;
        final int firstEnd;
        private final int[] stack;

        Text(int[] steps, int size, int leastEnd, int firstEnd) {
            int many = within(size, 0, steps.length);
            this.code = new int[many];
            this.stack = new int[many];
            this.leastEnd = leastEnd;
            this.firstEnd = firstEnd;
            System.arraycopy(steps, 0, code, 0, many);
        }

        int value(int from, int to, Seller who, Scene scene, int bid) {
            int top = 0;
            for (int i = Math.max(0, from); i < to && i < code.length; i++) {
                int step = code[i];
                if (step >= CUPS) {
                    if (top < stack.length) {
                        stack[top] = step >= 0 ? step : named(step, who, scene, bid);
                        top++;
                    }
                } else if (step >= NEGATE) {
                    if (top >= 1) {
                        int v = stack[top - 1];
                        stack[top - 1] = step == NEGATE ? -v : v == 0 ? 1 : 0;
                    }
                } else if (top >= 2) {
                    top--;
                    stack[top - 1] = joined(step, stack[top - 1], stack[top]);
                }
            }
            return top > 0 ? stack[top - 1] : 0;
        }

        private static int named(int name, Seller who, Scene scene, int bid) {
            switch (name) {
                case COST: return who.cost;
                case SHOES: return scene.shoes;
                case HOUR: return scene.hour;
                case BID: return bid;
                case SAID: return who.said;
                default: return who.cups;
            }
        }

        private static int joined(int sign, int left, int right) {
            switch (sign) {
                case OR: return left != 0 || right != 0 ? 1 : 0;
                case AND: return left != 0 && right != 0 ? 1 : 0;
                case LESS: return left < right ? 1 : 0;
                case EQUAL: return left == right ? 1 : 0;
                case PLUS: return left + right;
                case MINUS: return left - right;
                default: return left * right;
            }
        }
    }

    /** The tape, and what reads it, token by token, into the steps of a text. */
    private static final class Tape {
        // Names, signs and keys that have a step are tokens by that step's number.
        private static final int END = 0, NUMBER = 1, LEAST = 2, FIRST = 3, PULL = 4;
        private static final int OPENED = 5, CLOSED = 6, STOP = 7, WRONG = 8;
        private static final int MOST_OPEN = 5, MOST_DIGITS = 4;

        int size = 0;
        private final int[] letters = new int[LETTERS];
        private final int[] steps = new int[LETTERS];
        private int place = 0;
        private int token = END;
        private int tokenPlace = 0;
        private int tokenNumber = 0;
        private int stepCount = 0;
        private int leastEnd = 0;
        private int firstEnd = 0;
        private int fault = NONE;

        void add(int letter) {
            if (size < LETTERS) {
                letters[size] = letter;
                size++;
            }
        }

        /** The place of the fault, or NONE; the tape is empty then. */
        int read() {
            place = 0;
            stepCount = 0;
            fault = NONE;
            advance();
            part(LEAST);
            leastEnd = stepCount;
            part(FIRST);
            firstEnd = stepCount;
            part(PULL);
            if (token != END) {
                fail();
            }
            size = 0;
            return fault;
        }

        /** The text that was read last; it must have had no fault. */
        Text made() {
            return new Text(steps, stepCount, leastEnd, firstEnd);
        }

        private void part(int key) {
            expect(key);
            either(0);
            expect(STOP);
        }

        private void expect(int wanted) {
            if (token == wanted) {
                advance();
            } else {
                fail();
            }
        }

        private void fail() {
            if (fault == NONE) {
                fault = tokenPlace;
            }
            // Nothing stands where a wrong token is, so all that is open ends by it.
            token = WRONG;
        }

        private void either(int open) {
            both(open);
            for (int i = 0; i < size && token == Text.OR; i++) {
                advance();
                both(open);
                emit(Text.OR);
            }
        }

        private void both(int open) {
            denied(open);
            for (int i = 0; i < size && token == Text.AND; i++) {
                advance();
                denied(open);
                emit(Text.AND);
            }
        }

        private void denied(int open) {
            if (token == Text.NOT) {
                if (open >= MOST_OPEN) {
                    fail();
                    return;
                }
                advance();
                denied(open + 1);
                emit(Text.NOT);
                return;
            }
            sum(open);
            if (token == Text.LESS || token == Text.EQUAL) {
                int sign = token;
                advance();
                sum(open);
                emit(sign);
            }
        }

        private void sum(int open) {
            term(open);
            for (int i = 0; i < size && (token == Text.PLUS || token == Text.MINUS); i++) {
                int sign = token;
                advance();
                term(open);
                emit(sign);
            }
        }

        private void term(int open) {
            one(open);
            for (int i = 0; i < size && token == Text.TIMES; i++) {
                advance();
                one(open);
                emit(Text.TIMES);
            }
        }

        private void one(int open) {
            if (token == NUMBER) {
                emit(tokenNumber);
                advance();
            } else if (token <= Text.COST && token >= Text.CUPS) {
                emit(token);
                advance();
            } else if (token == Text.MINUS && open < MOST_OPEN) {
                advance();
                one(open + 1);
                emit(Text.NEGATE);
            } else if (token == OPENED && open < MOST_OPEN) {
                advance();
                either(open + 1);
                expect(CLOSED);
            } else {
                fail();
            }
        }

        private void emit(int step) {
            if (stepCount < LETTERS) {
                steps[stepCount] = step;
                stepCount++;
            }
        }

        private void advance() {
            while (place < size && isBlank(letters[place])) {
                place++;
            }
            tokenPlace = place;
            if (place >= size) {
                token = END;
            } else if (isSmallLetter(letters[place])) {
                while (place < size && isSmallLetter(letters[place])) {
                    place++;
                }
                token = wordToken();
            } else if (isDigit(letters[place])) {
                token = numberToken();
            } else {
                token = signToken(letters[place]);
                place++;
            }
        }

        private int numberToken() {
            tokenNumber = 0;
            while (place < size && isDigit(letters[place])) {
                tokenNumber = 10 * tokenNumber + letters[place] - '0';
                place++;
            }
            return place - tokenPlace <= MOST_DIGITS ? NUMBER : WRONG;
        }

        private static int signToken(int letter) {
            switch (letter) {
                case '(': return OPENED;
                case ')': return CLOSED;
                case ';': return STOP;
                case '+': return Text.PLUS;
                case '-': return Text.MINUS;
                case '*': return Text.TIMES;
                case '<': return Text.LESS;
                case '=': return Text.EQUAL;
                default: return WRONG;
            }
        }

        private int wordToken() {
            if (spells("least")) return LEAST;
            if (spells("first")) return FIRST;
            if (spells("pull")) return PULL;
            if (spells("or")) return Text.OR;
            if (spells("and")) return Text.AND;
            if (spells("not")) return Text.NOT;
            if (spells("cost")) return Text.COST;
            if (spells("shoes")) return Text.SHOES;
            if (spells("hour")) return Text.HOUR;
            if (spells("bid")) return Text.BID;
            if (spells("said")) return Text.SAID;
            if (spells("cups")) return Text.CUPS;
            return WRONG;
        }

        private boolean spells(String word) {
            if (place - tokenPlace != word.length()) {
                return false;
            }
            for (int i = 0; i < word.length(); i++) {
                if (letters[tokenPlace + i] != word.charAt(i)) {
                    return false;
                }
            }
            return true;
        }

        private static boolean isBlank(int letter) {
            return letter == 32 || letter == 10;
        }

        private static boolean isSmallLetter(int letter) {
            return letter >= 'a' && letter <= 'z';
        }

        private static boolean isDigit(int letter) {
            return letter >= '0' && letter <= '9';
        }
    }

    /** A row of numbers that is made once and becomes now of this sort, now of that. */
    private static final class Sheet {
        final int[] items = new int[ITEMS];
        int sort = MISSING;
        int size = 0;

        boolean isMissing() {
            return sort == MISSING;
        }

        void become(int newSort, int newSize) {
            sort = newSort;
            size = within(newSize, 0, ITEMS);
            for (int i = 0; i < ITEMS; i++) {
                items[i] = 0;
            }
        }

        boolean has(int i) {
            return i >= 0 && i < size && i < ITEMS;
        }

        boolean hasRun(int i, int n) {
            // size - n can't wrap once n is known to be 0 or more.
            return n >= 0 && i >= 0 && i <= size - n;
        }

        int at(int i) {
            return has(i) ? items[i] : 0;
        }

        void put(int i, int v) {
            if (has(i)) {
                items[i] = sort == 0 ? (byte) v : sort == 1 ? (short) v : v;
            }
        }
    }
}
