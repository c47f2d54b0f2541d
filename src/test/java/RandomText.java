import java.util.Random;

/** Random expressions by the document's grammar. */
final class RandomText {
    private static final String[] NAMES = {"cost", "shoes", "hour", "bid", "said", "cups"};

    private RandomText() {
    }

    static String e(Random r, int depth) {
        String s = and(r, depth);
        return r.nextInt(9) == 0 ? s + " or " + and(r, depth) : s;
    }

    private static String and(Random r, int depth) {
        String s = not(r, depth);
        return r.nextInt(9) == 0 ? s + " and " + not(r, depth) : s;
    }

    private static String not(Random r, int depth) {
        if (depth > 0 && r.nextInt(14) == 0) {
            return "not " + not(r, depth - 1);
        }
        String s = sum(r, depth);
        int k = r.nextInt(10);
        return k == 0 ? s + "<" + sum(r, depth) : k == 1 ? s + " = " + sum(r, depth) : s;
    }

    private static String sum(Random r, int depth) {
        String s = term(r, depth);
        while (r.nextInt(5) < 2) {
            s += (r.nextInt(3) == 0 ? " - " : "+") + term(r, depth);
        }
        return s;
    }

    private static String term(Random r, int depth) {
        String s = one(r, depth);
        return r.nextInt(4) == 0 ? s + "*" + one(r, depth) : s;
    }

    private static String one(Random r, int depth) {
        int k = r.nextInt(12);
        if (depth > 0 && k < 2) {
            return "(" + e(r, depth - 1) + ")";
        }
        if (depth > 0 && k == 2) {
            return "-" + one(r, depth - 1);
        }
        return k < 8 ? NAMES[r.nextInt(3) == 0 ? r.nextInt(6) : 0]
                : Integer.toString(r.nextInt(r.nextInt(6) == 0 ? 10000 : 120));
    }
}
