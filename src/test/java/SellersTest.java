/** Promises 1 to 5: a new object, seller, set, anew, told. */
public final class SellersTest {
    private static final Due due = new Due("SellersTest");
    private static final int MIN = Integer.MIN_VALUE, MAX = Integer.MAX_VALUE;

    public static void main(String[] args) {
        newObject();
        seller();
        set();
        anew();
        told();
        stays();
        due.finish();
    }

    private static void newObject() {
        CarpetEleven x = new CarpetEleven();
        int[] first = {0, 0, 0, 4, 12, 250, 1, 0, 0};
        for (int what = 0; what < first.length; what++) {
            due.is("new count(" + what + ")", x.count(what), first[what]);
        }
        due.is("new told(0, 0)", x.told(0, 0), -2);
        due.is("new back()", x.back(), -3);
        for (int sheet = 0; sheet < 4; sheet++) {
            due.is("new cell(" + sheet + ", 0, 0)", x.cell(sheet, 0, 0), -11);
        }
        CarpetEleven other = new CarpetEleven();
        other.seller(0, 0);
        due.is("objects share nothing", x.count(0), 0);
    }

    private static void seller() {
        CarpetEleven x = new CarpetEleven();
        int[][] bad = {{-1, 0}, {6, 0}, {0, -1}, {0, 10000}, {MIN, 0}, {MAX, 0}, {0, MIN}, {0, MAX}};
        for (int[] a : bad) {
            due.is("seller(" + a[0] + ", " + a[1] + ")", x.seller(a[0], a[1]), -2);
        }
        due.is("none came", x.count(0), 0);
        for (int i = 0; i < 6; i++) {
            due.is("seller " + i, x.seller(5 - i, 9990 + i), i);
            due.is("his KIND", x.told(i, 0), 5 - i);
            due.is("his COST", x.told(i, 1), 999);
            due.is("his NUMBER", x.told(i, 2), i);
        }
        due.is("BAD goes ahead of FULL", x.seller(6, 0), -2);
        due.is("a seventh", x.seller(0, 0), -4);
        due.is("six stay", x.count(0), 6);
    }

    private static void set() {
        CarpetEleven x = new CarpetEleven();
        x.seller(0, 1003);
        int[] top = {9, 23, 1999};
        int[] was = {4, 12, 250};
        for (int what = 0; what < 3; what++) {
            due.is("set above", x.set(what, 0, top[what] + 1), -2);
            due.is("set below", x.set(what, 0, -1), -2);
            due.is("a refusal changes nothing", x.count(3 + what), was[what]);
            due.is("set the greatest", x.set(what, MIN, top[what]), was[what]);
            due.is("set the least", x.set(what, MAX, 0), top[what]);
            due.is("it is set", x.count(3 + what), 0);
        }
        due.is("shoes alone change nothing SAID", x.told(0, 3), 280);
        x.word(0, 10);
        due.is("set COST", x.set(3, 0, 999), 100);
        due.is("COST is set", x.told(0, 1), 999);
        due.is("all begins anew: SAID", x.told(0, 3), 1998);
        due.is("all begins anew: CUPS", x.told(0, 4), 0);
        due.is("set COST to 0", x.set(3, 0, 0), 999);
        due.is("no COST 1000", x.set(3, 0, 1000), -2);
        due.is("no COST -1", x.set(3, 0, -1), -2);
        due.is("no SELLER 1", x.set(3, 1, 0), -2);
        due.is("no SELLER -1", x.set(3, -1, 0), -2);
        due.is("no what 4", x.set(4, 0, 0), -2);
        due.is("no what -1", x.set(-1, 0, 0), -2);
    }

    private static void anew() {
        CarpetEleven x = new CarpetEleven();
        x.seller(0, 1003);
        x.word(0, 100);
        due.is("SAID 235", x.told(0, 3), 235);
        x.agree(0);
        due.is("SOLD", x.told(0, 6), 235);
        due.is("anew", x.anew(0), 280);
        due.is("open", x.told(0, 5), 0);
        due.is("no PRICE", x.told(0, 6), -1);
        due.is("no CUPS", x.told(0, 4), 0);
        x.set(0, 0, 9);
        due.is("anew in other shoes", x.anew(0), 380);
        x.set(1, 0, 8);
        x.set(0, 0, 0);
        x.set(3, 0, 0);
        due.is("LEAST is 0 at least", x.told(0, 7), 0);
        due.is("first is 0", x.anew(0), 0);
        due.is("anew of none", x.anew(1), -2);
        due.is("anew of -1", x.anew(-1), -2);
        // first below LEAST becomes LEAST, above 1999 it becomes 1999.
        Due.text(x, "least 700 + said + cups + bid; first 10 + bid + said; pull 0;");
        Due.text(x, "least 5000; first 0 - 1; pull 0;");
        Due.text(x, "least 0; first 9999 * 9999 * 9999; pull 0;");
        x.force(1);
        due.is("first is LEAST at least", x.anew(0), 700);
        x.force(2);
        due.is("LEAST is 1999 at most", x.anew(0), 1999);
        x.force(3);
        // 9999^3 wraps to a number below 0, so it is LEAST that he says.
        due.is("first wraps", x.anew(0), Math.min(1999, Math.max(0, 9999 * 9999 * 9999)));
    }

    private static void told() {
        CarpetEleven x = new CarpetEleven();
        x.seller(1, 1605);
        int[] want = {1, 160, 5, 400, 0, 0, -1, 168, 10};
        for (int what = 0; what < want.length; what++) {
            due.is("told(0, " + what + ")", x.told(0, what), want[what]);
        }
        due.is("told(0, 9)", x.told(0, 9), -2);
        due.is("told(0, -1)", x.told(0, -1), -2);
        due.is("told(1, 0)", x.told(1, 0), -2);
        due.is("told(-1, 0)", x.told(-1, 0), -2);
        // LEAST now is told by SAID and CUPS as they are, and bid 0.
        Due.text(x, "least said + 100 * cups + bid; first 300; pull 0;");
        x.force(1);
        due.is("anew", x.anew(0), 300);
        due.is("LEAST by SAID", x.told(0, 7), 300);
        due.is("word", x.word(0, 100), 0);
        due.is("SAID stays, since LEAST is above it", x.told(0, 3), 300);
        due.is("LEAST by CUPS", x.told(0, 7), 400);
    }

    private static void stays() {
        int[][] want = {{4, 7, 13}, {5, 8, 14}, {2, 3, 6}, {3, 4, 7}, {5, 8, 14}, {10, 16, 28}};
        int[] numbers = {0, 3, 9};
        for (int kind = 0; kind < 6; kind++) {
            for (int k = 0; k < 3; k++) {
                CarpetEleven x = new CarpetEleven();
                x.seller(kind, 9000 + numbers[k]);
                due.is("STAYS of kind " + kind, x.told(0, 8), want[kind][k]);
                int words = 0;
                while (words < 40 && x.word(0, 0) == 0) {
                    words++;
                }
                due.is("GONE behind", words + 1, want[kind][k]);
                due.is("he is GONE", x.told(0, 5), 2);
                due.is("all CUPS", x.told(0, 4), want[kind][k]);
            }
        }
    }
}
