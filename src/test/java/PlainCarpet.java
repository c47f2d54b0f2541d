import java.util.ArrayList;
import java.util.Arrays;
import java.util.List;

/**
 * The document told a second time, in another manner, to be compared with CarpetEleven:
 * whatever is only thought of happens to a copy of the whole, and texts are read to trees.
 */
public final class PlainCarpet {
    static final class Man {
        int kind, cost, number, said, cups, stands, price = -1;

        Man copied() {
            Man m = new Man();
            m.kind = kind;
            m.cost = cost;
            m.number = number;
            m.said = said;
            m.cups = cups;
            m.stands = stands;
            m.price = price;
            return m;
        }
    }

    /** cost, shoes, hour, bid, said, cups. */
    interface Worth {
        int of(int[] names);
    }

    static final class Fault extends RuntimeException {
        final int place;

        Fault(int place) {
            super(null, null, false, false);
            this.place = place;
        }
    }

    List<Man> men = new ArrayList<>();
    List<Worth[]> texts = new ArrayList<>();
    StringBuilder tape = new StringBuilder();
    int shoes = 4, hour = 12, limit = 250, theRule = 0;
    int[][] rows = new int[4][];
    int[] sorts = new int[4];
    PlainCarpet kept = null;

    public PlainCarpet() {
        texts.add(new Parse("least cost + shoes * 2 - ( hour < 9 ) * 10 ; first 2 * cost + shoes * 20 ; pull 0 ;")
                .whole());
    }

    private PlainCarpet(PlainCarpet o) {
        for (Man m : o.men) {
            men.add(m.copied());
        }
        texts = new ArrayList<>(o.texts);
        shoes = o.shoes;
        hour = o.hour;
        limit = o.limit;
        theRule = o.theRule;
    }

    // ---- texts, by grammar over a list of tokens

    static final class Parse {
        final String text;
        final List<String> words = new ArrayList<>();
        final List<Integer> places = new ArrayList<>();
        int at = 0, open = 0;

        Parse(String text) {
            this.text = text;
            int i = 0;
            while (i < text.length()) {
                char c = text.charAt(i);
                if (c == ' ' || c == '\n') {
                    i++;
                    continue;
                }
                int end = i + 1;
                if (c >= 'a' && c <= 'z') {
                    while (end < text.length() && text.charAt(end) >= 'a' && text.charAt(end) <= 'z') {
                        end++;
                    }
                } else if (c >= '0' && c <= '9') {
                    while (end < text.length() && text.charAt(end) >= '0' && text.charAt(end) <= '9') {
                        end++;
                    }
                }
                words.add(text.substring(i, end));
                places.add(i);
                i = end;
            }
        }

        String now() {
            return at < words.size() ? words.get(at) : "";
        }

        Fault fault() {
            return new Fault(at < words.size() ? places.get(at) : text.length());
        }

        void must(String w) {
            if (!now().equals(w)) {
                throw fault();
            }
            at++;
        }

        Worth[] whole() {
            Worth[] w = new Worth[3];
            String[] keys = {"least", "first", "pull"};
            for (int i = 0; i < 3; i++) {
                must(keys[i]);
                w[i] = e();
                must(";");
            }
            if (at < words.size()) {
                throw fault();
            }
            return w;
        }

        Worth e() {
            Worth l = and();
            while (now().equals("or")) {
                at++;
                Worth a = l, b = and();
                l = n -> a.of(n) != 0 | b.of(n) != 0 ? 1 : 0;
            }
            return l;
        }

        Worth and() {
            Worth l = not();
            while (now().equals("and")) {
                at++;
                Worth a = l, b = not();
                l = n -> a.of(n) != 0 & b.of(n) != 0 ? 1 : 0;
            }
            return l;
        }

        void opens() {
            if (open == 5) {
                throw fault();
            }
            open++;
            at++;
        }

        Worth not() {
            if (now().equals("not")) {
                opens();
                Worth a = not();
                open--;
                return n -> a.of(n) == 0 ? 1 : 0;
            }
            Worth a = sum();
            if (now().equals("<")) {
                at++;
                Worth b = sum();
                return n -> a.of(n) < b.of(n) ? 1 : 0;
            }
            if (now().equals("=")) {
                at++;
                Worth b = sum();
                return n -> a.of(n) == b.of(n) ? 1 : 0;
            }
            return a;
        }

        Worth sum() {
            Worth l = term();
            while (now().equals("+") || now().equals("-")) {
                boolean plus = now().equals("+");
                at++;
                Worth a = l, b = term();
                l = n -> plus ? a.of(n) + b.of(n) : a.of(n) - b.of(n);
            }
            return l;
        }

        Worth term() {
            Worth l = one();
            while (now().equals("*")) {
                at++;
                Worth a = l, b = one();
                l = n -> a.of(n) * b.of(n);
            }
            return l;
        }

        Worth one() {
            String w = now();
            if (w.matches("[0-9]{1,4}")) {
                at++;
                int v = Integer.parseInt(w);
                return n -> v;
            }
            int name = Arrays.asList("cost", "shoes", "hour", "bid", "said", "cups").indexOf(w);
            if (name >= 0) {
                at++;
                return n -> n[name];
            }
            if (w.equals("-")) {
                opens();
                Worth a = one();
                open--;
                return n -> -a.of(n);
            }
            if (w.equals("(")) {
                opens();
                Worth a = e();
                must(")");
                open--;
                return a;
            }
            throw fault();
        }
    }

    // ---- what a man does

    private int worth(int which, Man m, int bid, int said) {
        return texts.get(theRule)[which].of(new int[] {m.cost, shoes, hour, bid, said, m.cups});
    }

    private static int clamp(int v, int lo, int hi) {
        return v < lo ? lo : v > hi ? hi : v;
    }

    private int leastOf(Man m, int bid, int said) {
        return clamp(worth(0, m, bid, said), 0, 1999);
    }

    private void start(Man m) {
        m.stands = 0;
        m.cups = 0;
        m.price = -1;
        m.said = clamp(worth(1, m, 0, 0), leastOf(m, 0, 0), 1999);
    }

    private int stepsOf(Man m, int b) {
        int s = m.said;
        if (b >= s) {
            return 0;
        }
        int q = (s - b) / 4;
        switch (m.kind) {
            case 0: return q;
            case 1: return q + q;
            case 2: return q > m.number + 1 ? m.number + 1 : q;
            case 3: return 0;
            case 4: return m.cups == 3 ? q + q + 10 * m.number : q + q;
            default: return q + q + hour;
        }
    }

    private static int staysOf(Man m) {
        int n = m.number;
        return new int[] {4 + n, 5 + n, (4 + n) / 2, (4 + n) / 2 + 1, 5 + n, 10 + 2 * n}[m.kind];
    }

    private void say(Man m, int b) {
        m.cups++;
        int l = leastOf(m, b, m.said);
        int s = m.said;
        int x = s - stepsOf(m, b) + (m.cups == 1 ? clamp(worth(2, m, b, s), 0, 99) : 0);
        if (x < l) {
            x = l;
        }
        if (x > s) {
            x = s;
        }
        boolean plain = b >= l && b >= x;
        boolean takes = m.kind == 3 ? b >= s
                : m.kind == 4 ? plain || (b >= l && m.cups > 3)
                : m.kind == 5 ? b >= l : plain;
        if (takes) {
            m.stands = 1;
            m.price = b;
        } else if (m.cups >= staysOf(m)) {
            m.stands = 2;
        } else {
            m.said = x;
        }
    }

    /** How many words were bid. */
    private int haggle(Man m, int a, int p) {
        int mine = -1;
        int words = 0;
        for (int turn = 0; turn < 30; turn++) {
            if (m.stands != 0) {
                break;
            }
            mine = turn == 0 ? a : m.said > mine ? mine + (m.said - mine) * p / 10 : mine;
            if (mine > limit) {
                mine = limit;
            }
            if (mine >= m.said) {
                m.stands = 1;
                m.price = m.said;
            } else {
                say(m, mine);
                words++;
            }
        }
        return words;
    }

    private PlainCarpet dream() {
        return new PlainCarpet(this);
    }

    private boolean no(int seller) {
        return seller < 0 || seller >= men.size();
    }

    private static boolean noRule(int a, int p) {
        return a < 0 || a > 1999 || p < 0 || p > 10;
    }

    private static boolean out(int v, int top) {
        return v < 0 || v > top;
    }

    // ---- the face

    public int seller(int kind, int what) {
        if (out(kind, 5) || out(what, 9999)) {
            return -2;
        }
        if (men.size() == 6) {
            return -4;
        }
        Man m = new Man();
        m.kind = kind;
        m.cost = what / 10;
        m.number = what % 10;
        start(m);
        men.add(m);
        return men.size() - 1;
    }

    public int set(int what, int of, int v) {
        int was;
        switch (what) {
            case 0:
                if (out(v, 9)) {
                    return -2;
                }
                was = shoes;
                shoes = v;
                return was;
            case 1:
                if (out(v, 23)) {
                    return -2;
                }
                was = hour;
                hour = v;
                return was;
            case 2:
                if (out(v, 1999)) {
                    return -2;
                }
                was = limit;
                limit = v;
                return was;
            case 3:
                if (no(of) || out(v, 999)) {
                    return -2;
                }
                was = men.get(of).cost;
                men.get(of).cost = v;
                start(men.get(of));
                return was;
            default:
                return -2;
        }
    }

    public int anew(int seller) {
        if (no(seller)) {
            return -2;
        }
        start(men.get(seller));
        return men.get(seller).said;
    }

    public int told(int seller, int what) {
        if (no(seller) || out(what, 8)) {
            return -2;
        }
        Man m = men.get(seller);
        return new int[] {m.kind, m.cost, m.number, m.said, m.cups, m.stands, m.price,
            leastOf(m, 0, m.said), staysOf(m)}[what];
    }

    public int feed(int letter) {
        if (out(letter, 255)) {
            return -2;
        }
        if (tape.length() == 160) {
            return -4;
        }
        tape.append((char) letter);
        return tape.length();
    }

    public int text() {
        if (texts.size() == 6) {
            return -4;
        }
        String t = tape.toString();
        tape.setLength(0);
        try {
            texts.add(new Parse(t).whole());
            return texts.size() - 1;
        } catch (Fault f) {
            return -100 - f.place;
        }
    }

    public int force(int text) {
        if (text < 0 || text >= texts.size()) {
            return -2;
        }
        int was = theRule;
        theRule = text;
        return was;
    }

    public int word(int seller, int bid) {
        if (no(seller) || out(bid, 1999)) {
            return -2;
        }
        Man m = men.get(seller);
        if (m.stands != 0) {
            return -3;
        }
        say(m, bid);
        return m.stands;
    }

    public int agree(int seller) {
        if (no(seller)) {
            return -2;
        }
        Man m = men.get(seller);
        if (m.stands != 0) {
            return -3;
        }
        m.stands = 1;
        m.price = m.said;
        return m.price;
    }

    public int rule(int seller, int a, int p, int what) {
        if (no(seller) || noRule(a, p) || out(what, 2)) {
            return -2;
        }
        PlainCarpet d = dream();
        Man m = d.men.get(seller);
        d.haggle(m, a, p);
        return what == 0 ? m.stands : what == 1 ? m.price : m.cups;
    }

    public int bestRule(int seller, int what) {
        if (no(seller) || out(what, 2)) {
            return -2;
        }
        if (men.get(seller).stands != 0) {
            return -1;
        }
        List<int[]> ends = new ArrayList<>();
        PlainCarpet d = dream();
        for (int a = 0; a <= 400; a += 20) {
            for (int p = 0; p <= 10; p++) {
                Man m = men.get(seller).copied();
                d.haggle(m, a, p);
                if (m.stands == 1) {
                    ends.add(new int[] {100 * a + p, m.price, m.cups});
                }
            }
        }
        ends.sort((u, v) -> u[1] != v[1] ? Integer.compare(u[1], v[1])
                : u[2] != v[2] ? Integer.compare(u[2], v[2]) : Integer.compare(u[0], v[0]));
        return ends.isEmpty() ? -1 : ends.get(0)[what];
    }

    public int bestAt(int seller, int a, int p, int what) {
        if (no(seller) || noRule(a, p) || out(what, 1)) {
            return -2;
        }
        int best = -1, least = Integer.MAX_VALUE;
        for (int v = 0; v < (what == 0 ? 10 : 24); v++) {
            PlainCarpet d = dream();
            d.set(what, 0, v);
            d.anew(seller);
            d.haggle(d.men.get(seller), a, p);
            int price = d.men.get(seller).price;
            if (price >= 0 && price < least) {
                least = price;
                best = v;
            }
        }
        return best;
    }

    public int whom(int a, int p) {
        if (noRule(a, p)) {
            return -2;
        }
        int best = -1, least = Integer.MAX_VALUE;
        for (int i = 0; i < men.size(); i++) {
            int price = men.get(i).stands == 0 ? rule(i, a, p, 1) : -1;
            if (price >= 0 && price < least) {
                least = price;
                best = i;
            }
        }
        return best;
    }

    public int allInTurn(int a, int p, int what) {
        if (noRule(a, p) || out(what, 1)) {
            return -2;
        }
        PlainCarpet d = dream();
        int words = 0;
        for (Man m : d.men) {
            if (m.stands == 0) {
                words += d.haggle(m, a, p);
                if (m.stands == 1) {
                    return what == 0 ? m.price : words;
                }
            }
        }
        return what == 0 ? -1 : words;
    }

    public int hisCost(int seller, int sheet, int what) {
        if (no(seller) || out(sheet, 3) || out(what, 2)) {
            return -2;
        }
        int[] row = rows[sheet];
        if (row == null) {
            return -11;
        }
        if (row.length % 2 == 1) {
            return -2;
        }
        List<Integer> fit = new ArrayList<>();
        PlainCarpet d = dream();
        for (int c = 0; c < 1000; c++) {
            d.set(3, seller, c);
            boolean so = true;
            for (int i = 0; so && i < row.length; i += 2) {
                so = d.word(seller, row[i]) == 0 && d.told(seller, 3) == row[i + 1];
            }
            if (so) {
                fit.add(c);
            }
        }
        return what == 0 ? fit.size() : fit.isEmpty() ? -1 : fit.get(what == 1 ? 0 : fit.size() - 1);
    }

    public int slipped(int seller, int a, int p) {
        if (no(seller) || noRule(a, p)) {
            return -2;
        }
        PlainCarpet d = dream();
        d.men.get(seller).kind = 3;
        d.anew(seller);
        return d.rule(seller, a, p, 1);
    }

    public int market(int sheet, int a, int p, int what) {
        if (out(sheet, 3) || noRule(a, p) || out(what, 2)) {
            return -2;
        }
        if (rows[sheet] == null) {
            return -11;
        }
        PlainCarpet d = dream();
        int sold = 0, sum = 0, missed = 0;
        for (int l : rows[sheet]) {
            d.limit = clamp(l, 0, 1999);
            boolean could = false;
            for (Man m : d.men) {
                could |= m.stands == 0 && d.leastOf(m, 0, m.said) <= d.limit;
            }
            Man got = null;
            for (Man m : d.men) {
                if (got == null && m.stands == 0) {
                    d.haggle(m, a, p);
                    got = m.stands == 1 ? m : null;
                }
            }
            if (got != null) {
                sold++;
                sum += got.price;
            } else if (could) {
                missed++;
            }
        }
        return new int[] {sold, sum, missed}[what];
    }

    public int judge(int seller, int sheet) {
        if (no(seller) || out(sheet, 3)) {
            return -2;
        }
        if (rows[sheet] == null) {
            return -11;
        }
        PlainCarpet d = dream();
        for (int i = 0; i < rows[sheet].length; i++) {
            if (d.word(seller, rows[sheet][i]) < 0) {
                return i;
            }
        }
        return -1;
    }

    public int drawn(int seller, int seed) {
        if (no(seller)) {
            return -2;
        }
        PlainCarpet d = dream();
        int z = seed;
        for (int i = 0; i < 30 && d.told(seller, 5) == 0; i++) {
            z = (int) ((long) z * 1103515245L + 12345L);
            d.word(seller, (int) (((z & 0xffffffffL) >> 11) % 400));
        }
        return d.told(seller, 5);
    }

    public long odds(int seller, int seed, int many, int part) {
        if (no(seller) || many < 1 || many > 30 || out(part, 1)) {
            return -4611686018427387904L;
        }
        int sold = 0;
        for (int i = 0; i < many; i++) {
            sold += drawn(seller, seed + i) == 1 ? 1 : 0;
        }
        int g = java.math.BigInteger.valueOf(sold).gcd(java.math.BigInteger.valueOf(many)).intValue();
        return part == 0 ? sold / g : many / g;
    }

    private int standing(int how) {
        return (int) men.stream().filter(m -> m.stands == how).count();
    }

    public int image() {
        kept = dream();
        return standing(0);
    }

    public int back() {
        if (kept == null) {
            return -3;
        }
        for (int i = 0; i < kept.men.size(); i++) {
            Man k = kept.men.get(i), m = men.get(i);
            m.said = k.said;
            m.cups = k.cups;
            m.stands = k.stands;
            m.price = k.price;
        }
        shoes = kept.shoes;
        hour = kept.hour;
        limit = kept.limit;
        theRule = kept.theRule;
        return standing(0);
    }

    public int count(int what) {
        return out(what, 8) ? -2 : new int[] {men.size(), standing(0), standing(1), shoes, hour, limit,
            texts.size(), tape.length(), theRule}[what];
    }

    public int sheet(int sheet, int sort, int n) {
        if (out(sheet, 3) || sort < -1 || sort > 2) {
            return -2;
        }
        if (sort == -1) {
            rows[sheet] = null;
            return 1;
        }
        if (n > 40) {
            return -2;
        }
        if (n < 0) {
            return -14;
        }
        rows[sheet] = new int[n];
        sorts[sheet] = sort;
        return 1;
    }

    public int cell(int sheet, int i, int v) {
        if (out(sheet, 3)) {
            return -2;
        }
        if (rows[sheet] == null) {
            return -11;
        }
        if (i < 0 || i >= rows[sheet].length) {
            return -12;
        }
        int shift = sorts[sheet] == 0 ? 24 : sorts[sheet] == 1 ? 16 : 0;
        rows[sheet][i] = v << shift >> shift;
        return 1;
    }

    public int copy(int sheet, int i, int other, int j, int n) {
        if (out(sheet, 3) || out(other, 3)) {
            return -2;
        }
        if (rows[sheet] == null || rows[other] == null) {
            return -11;
        }
        if (sorts[sheet] != sorts[other]) {
            return -13;
        }
        if (i < 0 || j < 0 || n < 0 || (long) i + n > rows[sheet].length || (long) j + n > rows[other].length) {
            return -12;
        }
        int[] were = rows[sheet].clone();
        for (int k = 0; k < n; k++) {
            rows[other][j + k] = were[i + k];
        }
        return n;
    }

    public int sellers(int sheet, int sort, int from, int n) {
        if (out(sheet, 3) || out(sort, 2) || out(n, 6)) {
            return -2;
        }
        if (rows[sheet] == null) {
            return -11;
        }
        if (sorts[sheet] != sort) {
            return -13;
        }
        int came = 0;
        long at = from;
        for (int k = 0; k < n; k++, at += 2) {
            if (at < 0 || at + 1 >= rows[sheet].length) {
                return -12;
            }
            came += seller(rows[sheet][(int) at], rows[sheet][(int) at + 1]) >= 0 ? 1 : 0;
        }
        return came;
    }

    public int taken(int seller, int k) {
        if (out(k, 5)) {
            return -2;
        }
        if (no(seller)) {
            return -11;
        }
        int[] over = {-1, 0, 0, 2, 1, 1};
        for (int kind = men.get(seller).kind; kind >= 0; kind = over[kind]) {
            if (kind == k) {
                return men.get(seller).number;
            }
        }
        return -13;
    }
}
