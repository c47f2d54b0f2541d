/** Promises 12 to 24: what would be best, judged, drawn, laid back, counted. */
public final class BestTest {
    private static final Due due = new Due("BestTest");

    public static void main(String[] args) {
        bestRule();
        bestRuleOfLikeOnes();
        bestAt();
        whom();
        allInTurn();
        hisCost();
        slipped();
        market();
        judge();
        drawn();
        odds();
        image();
        count();
        due.finish();
    }

    private static CarpetEleven one(int kind, int what) {
        CarpetEleven x = new CarpetEleven();
        x.seller(kind, what);
        return x;
    }

    private static CarpetEleven by(String text) {
        CarpetEleven x = new CarpetEleven();
        Due.text(x, text);
        x.force(1);
        return x;
    }

    private static void bestRule() {
        CarpetEleven x = one(0, 1003);
        due.is("bestRule(1, 0)", x.bestRule(1, 0), -2);
        due.is("bestRule(-1, 0)", x.bestRule(-1, 0), -2);
        due.is("bestRule(0, -1)", x.bestRule(0, -1), -2);
        due.is("bestRule(0, 3)", x.bestRule(0, 3), -2);
        for (int limit = 100; limit <= 300; limit += 50) {
            CarpetEleven y = one(0, 1003);
            y.set(2, 0, limit);
            sameAsByHand(y);
        }
        x.set(2, 0, 107);
        due.is("by none", x.bestRule(0, 0), -1);
        due.is("by none", x.bestRule(0, 1), -1);
        due.is("by none", x.bestRule(0, 2), -1);
        due.is("nothing changed", x.told(0, 4), 0);
        CarpetEleven later = one(0, 1003);
        later.word(0, 0);
        sameAsByHand(later);
        x.agree(0);
        due.is("SOLD", x.bestRule(0, 0), -1);
        due.is("SOLD", x.bestRule(0, 1), -1);
        sameAsByHand(one(5, 1000));
        // An EAGER takes LEAST at once: 100 bid first, and no rule has it in no CUP.
        CarpetEleven eager = by("least 100;first 300;pull 0;");
        eager.seller(5, 1000);
        due.is("an EAGER's best", eager.bestRule(0, 0), 10000);
        due.is("at LEAST", eager.bestRule(0, 1), 100);
        due.is("in one CUP", eager.bestRule(0, 2), 1);
    }

    /** The best of all rules, asked one by one. */
    private static void sameAsByHand(CarpetEleven x) {
        int best = -1;
        int price = -1;
        int cups = -1;
        for (int a = 0; a <= 400; a += 20) {
            for (int p = 0; p <= 10; p++) {
                int pr = x.rule(0, a, p, 1);
                int cu = x.rule(0, a, p, 2);
                if (pr != -1 && (best == -1 || pr < price || pr == price && cu < cups)) {
                    best = 100 * a + p;
                    price = pr;
                    cups = cu;
                }
            }
        }
        due.is("best rule", x.bestRule(0, 0), best);
        due.is("best price", x.bestRule(0, 1), price);
        due.is("best cups", x.bestRule(0, 2), cups);
    }

    private static void bestRuleOfLikeOnes() {
        // He says 40 and never less: 40 without a CUP, the least such a, and any p.
        CarpetEleven x = by("least 40;first 40;pull 0;");
        x.seller(0, 9);
        due.is("fewest CUPS", x.bestRule(0, 0), 4000);
        due.is("PRICE", x.bestRule(0, 1), 40);
        due.is("CUPS", x.bestRule(0, 2), 0);
        // He says 400, and only a = 400 agrees at once.
        CarpetEleven y = by("least 400;first 400;pull 0;");
        y.seller(3, 0);
        y.set(2, 0, 1999);
        due.is("a goes up to 400", y.bestRule(0, 0), 40000);
        CarpetEleven z = by("least 401;first 401;pull 0;");
        z.seller(3, 0);
        z.set(2, 0, 1999);
        due.is("p goes up to 10", z.bestRule(0, 0), 10);
        due.is("behind one CUP", z.bestRule(0, 2), 1);
    }

    private static void bestAt() {
        CarpetEleven x = one(0, 1003);
        int[][] bad = {{1, 0, 0, 0}, {-1, 0, 0, 0}, {0, -1, 0, 0}, {0, 2000, 0, 0}, {0, 0, -1, 0},
            {0, 0, 11, 0}, {0, 0, 0, -1}, {0, 0, 0, 2}};
        for (int[] b : bad) {
            due.is("bestAt", x.bestAt(b[0], b[1], b[2], b[3]), -2);
        }
        due.is("least shoes", x.bestAt(0, 0, 10, 0), 0);
        due.is("hours alike: the first", x.bestAt(0, 0, 10, 1), 0);
        due.is("no SHOES do", x.bestAt(0, 0, 0, 0), -1);
        due.is("no HOUR does", x.bestAt(0, 0, 0, 1), -1);
        x.agree(0);
        due.is("all begins anew, though it is SOLD", x.bestAt(0, 0, 10, 0), 0);
        due.is("SHOES stay", x.count(3), 4);
        due.is("THE HOUR stays", x.count(4), 12);
        due.is("SOLD stays", x.told(0, 6), 280);
        CarpetEleven y = by("least 10 * (9 - shoes) + 5 * (hour - 17) * (hour - 17);"
                + "first 1000 - 100 * shoes;pull 0;");
        y.seller(3, 0);
        y.set(2, 0, 1999);
        due.is("the greatest SHOES", y.bestAt(0, 1999, 0, 0), 9);
        // first is 600 but where LEAST, 50 + 5 * (hour - 17)^2, is above it: up to hour 6.
        due.is("the first HOUR of like ones", y.bestAt(0, 1999, 0, 1), 7);
        CarpetEleven z = by("least 0;first 24 - hour;pull 0;");
        z.seller(3, 0);
        due.is("the greatest HOUR", z.bestAt(0, 1999, 0, 1), 23);
        // An EAGER steps by THE HOUR that is thought of.
        CarpetEleven eager = by("least 100;first 200;pull 0;");
        eager.seller(5, 0);
        due.is("an EAGER's HOUR", eager.bestAt(0, 99, 10, 1), 23);
    }

    private static void whom() {
        CarpetEleven x = new CarpetEleven();
        due.is("whom(-1, 0)", x.whom(-1, 0), -2);
        due.is("whom(2000, 0)", x.whom(2000, 0), -2);
        due.is("whom(0, -1)", x.whom(0, -1), -2);
        due.is("whom(0, 11)", x.whom(0, 11), -2);
        due.is("none", x.whom(0, 0), -1);
        x.set(2, 0, 1999);
        x.seller(3, 600);
        x.seller(3, 500);
        x.seller(3, 500);
        due.is("of like ones the first", x.whom(1999, 0), 1);
        x.agree(1);
        due.is("who stands open", x.whom(1999, 0), 2);
        x.agree(2);
        due.is("who stands open", x.whom(1999, 0), 0);
        x.agree(0);
        due.is("none", x.whom(1999, 0), -1);
        CarpetEleven y = one(3, 600);
        due.is("he sells to none", y.whom(0, 0), -1);
    }

    private static void allInTurn() {
        CarpetEleven x = new CarpetEleven();
        int[][] bad = {{-1, 0, 0}, {2000, 0, 0}, {0, -1, 0}, {0, 11, 0}, {0, 0, -1}, {0, 0, 2}};
        for (int[] b : bad) {
            due.is("allInTurn", x.allInTurn(b[0], b[1], b[2]), -2);
        }
        due.is("none", x.allInTurn(0, 0, 0), -1);
        due.is("no words", x.allInTurn(0, 0, 1), 0);
        // A SLIP of 200 goes behind 3 words of 100, one of 90 is agreed with at once.
        x.seller(3, 600);
        x.seller(3, 50);
        x.seller(3, 50);
        due.is("the PRICE", x.allInTurn(100, 0, 0), 90);
        due.is("the words", x.allInTurn(100, 0, 1), 3);
        x.word(0, 0);
        due.is("the words from now on", x.allInTurn(100, 0, 1), 2);
        x.agree(0);
        due.is("he is left out", x.allInTurn(100, 0, 1), 0);
        due.is("none takes it", x.allInTurn(0, 0, 0), -1);
        due.is("all words", x.allInTurn(0, 0, 1), 6);
        due.is("nothing changed", x.told(1, 4), 0);
    }

    private static void hisCost() {
        CarpetEleven x = one(0, 1003);
        due.is("no SELLER", x.hisCost(1, 0, 0), -2);
        due.is("no SELLER", x.hisCost(-1, 0, 0), -2);
        due.is("no SHEET", x.hisCost(0, -1, 0), -2);
        due.is("no SHEET", x.hisCost(0, 4, 0), -2);
        due.is("no what", x.hisCost(0, 0, -1), -2);
        due.is("no what", x.hisCost(0, 0, 3), -2);
        due.is("missing", x.hisCost(0, 0, 0), -11);
        Due.row(x, 0, 2, 1, 2, 3);
        due.is("odd", x.hisCost(0, 0, 0), -2);
        Due.row(x, 0, 2, 1000, 1999, 1998, 1999);
        // From COST 960 on he says 1999 at first; 1998 then is below 1999 less nothing.
        due.is("1000 makes him step", x.hisCost(0, 0, 0), 0);
        due.is("by none", x.hisCost(0, 0, 1), -1);
        due.is("by none", x.hisCost(0, 0, 2), -1);
        Due.row(x, 0, 2, 1998, 1999);
        due.is("many say so", x.hisCost(0, 0, 0), 40);
        due.is("the least", x.hisCost(0, 0, 1), 960);
        due.is("the greatest", x.hisCost(0, 0, 2), 999);
        Due.row(x, 0, 2, 0, 210);
        due.is("one", x.hisCost(0, 0, 0), 1);
        due.is("the least", x.hisCost(0, 0, 1), 100);
        // 280, 0: 210; 100: 183 (110 / 4 is 27); 150: 175.
        Due.row(x, 0, 1, 0, 210, 100, 183, 150, 175);
        due.is("three rows", x.hisCost(0, 0, 2), 100);
        Due.row(x, 0, 1, 0, 210, 100, 184, 150, 175);
        due.is("a wrong one among them", x.hisCost(0, 0, 0), 0);
        Due.row(x, 0, 1, 0, 210, 100, 183, 150, 176);
        due.is("a wrong one at the end", x.hisCost(0, 0, 0), 0);
        // He who takes the bid stands no more open, though SAID is as told.
        Due.row(x, 0, 2, 280, 280);
        int open = 0;
        for (int hundred = 0; hundred < 10; hundred++) {
            CarpetEleven y = one(0, 3);
            for (int i = 0; i < 100; i++) {
                y.set(3, 0, 100 * hundred + i);
                if (y.word(0, 280) == 0 && y.told(0, 3) == 280) {
                    open++;
                }
            }
        }
        due.is("as asked one by one", x.hisCost(0, 0, 0), open);
        x.word(0, 5);
        due.is("from the beginning on", x.hisCost(0, 0, 0), open);
        due.is("COST stays", x.told(0, 1), 100);
        due.is("CUPS stay", x.told(0, 4), 1);
        x.agree(0);
        due.is("of one SOLD too", x.hisCost(0, 0, 0), open);
        Due.row(x, 0, 2, -1, 280);
        due.is("a bid that is none", x.hisCost(0, 0, 0), 0);
        Due.row(x, 0, 2, 2000, 280);
        due.is("a bid that is none", x.hisCost(0, 0, 2), -1);
        x.sheet(0, 0, 0);
        due.is("no rows: all COSTS", x.hisCost(0, 0, 0), 1000);
        x.sheet(0, 2, 40);
        due.is("20 words are too many", x.hisCost(0, 0, 0), 0);
    }

    private static void slipped() {
        CarpetEleven x = one(0, 1003);
        int[][] bad = {{1, 0, 0}, {-1, 0, 0}, {0, -1, 0}, {0, 2000, 0}, {0, 0, -1}, {0, 0, 11}};
        for (int[] b : bad) {
            due.is("slipped", x.slipped(b[0], b[1], b[2]), -2);
        }
        x.set(2, 0, 1999);
        due.is("at his first number", x.slipped(0, 0, 10), 280);
        due.is("a SELLER would step", x.rule(0, 0, 10, 1), 210);
        due.is("he would be gone", x.slipped(0, 279, 0), -1);
        x.word(0, 0);
        due.is("all begins anew", x.slipped(0, 0, 10), 280);
        x.agree(0);
        due.is("SOLD, too", x.slipped(0, 280, 0), 280);
        due.is("KIND stays", x.told(0, 0), 0);
        due.is("PRICE stays", x.told(0, 6), 210);
        x.set(2, 0, 250);
        due.is("LIMIT", x.slipped(0, 0, 10), -1);
        // NUMBER 3: a STIFF stays 3, a SLIP 4 CUPS: 0, 140, 210, 245 are words, then 262.
        x.set(2, 0, 1999);
        due.is("half the way", x.slipped(0, 0, 5), -1);
    }

    private static void market() {
        CarpetEleven x = new CarpetEleven();
        int[][] bad = {{-1, 0, 0, 0}, {4, 0, 0, 0}, {0, -1, 0, 0}, {0, 2000, 0, 0}, {0, 0, -1, 0},
            {0, 0, 11, 0}, {0, 0, 0, -1}, {0, 0, 0, 3}};
        for (int[] b : bad) {
            due.is("market", x.market(b[0], b[1], b[2], b[3]), -2);
        }
        due.is("missing", x.market(0, 0, 0, 0), -11);
        x.seller(3, 600);
        x.seller(3, 500);
        x.seller(3, 700);
        // They say 200, 180, 220; LEAST is 68, 58, 78.
        Due.row(x, 0, 2, 180, 220, 220, 300);
        // 180: the first is gone behind 3 words, the second sells at 180. 220: the third sells.
        due.is("SOLD", x.market(0, 1999, 0, 0), 2);
        due.is("PRICES", x.market(0, 1999, 0, 1), 400);
        due.is("with none open none is missed", x.market(0, 1999, 0, 2), 0);
        Due.row(x, 0, 2, 57, 200, 300);
        // 57 is below every LEAST: not missed, but all are gone by it.
        due.is("SOLD", x.market(0, 1999, 0, 0), 0);
        due.is("missed", x.market(0, 1999, 0, 2), 0);
        Due.row(x, 0, 2, 58, 200, 300);
        due.is("one is missed", x.market(0, 1999, 0, 2), 1);
        Due.row(x, 0, 2, -7, 5000);
        due.is("the bounds", x.market(0, 1999, 0, 0), 0);
        Due.row(x, 0, 2, 5000, 5000, 5000, 5000);
        due.is("all are SOLD", x.market(0, 1999, 0, 0), 3);
        due.is("at", x.market(0, 1999, 0, 1), 600);
        due.is("the last found none open", x.market(0, 1999, 0, 2), 0);
        due.is("nothing changed", x.count(1), 3);
        due.is("LIMIT stays", x.count(5), 250);
        x.agree(0);
        due.is("who stands open", x.market(0, 1999, 0, 1), 400);
        x.sheet(0, 0, 0);
        due.is("no buyers", x.market(0, 0, 0, 2), 0);
        // LEAST as they come is told by SAID and CUPS: here it is above each LIMIT by CUPS.
        CarpetEleven y = by("least 300 * cups;first 400;pull 0;");
        y.seller(0, 9);
        Due.row(y, 0, 2, 10);
        due.is("missed", y.market(0, 1999, 0, 2), 1);
        y.word(0, 0);
        due.is("not missed", y.market(0, 1999, 0, 2), 0);
        CarpetEleven z = by("least 900 * bid;first 900;pull 0;");
        z.seller(0, 9);
        Due.row(z, 0, 2, 10);
        due.is("missed by LEAST of bid 0", z.market(0, 1999, 0, 2), 1);
        CarpetEleven cheap = by("least 0;first 1;pull 0;");
        cheap.seller(3, 9);
        Due.row(cheap, 0, 2, -7);
        due.is("a LIMIT below 0 is 0", cheap.market(0, 1999, 0, 0), 0);
        Due.row(cheap, 0, 2, 1);
        due.is("a LIMIT of 1", cheap.market(0, 1999, 0, 0), 1);
        CarpetEleven dear = by("least 0;first 1999;pull 0;");
        dear.seller(3, 9);
        Due.row(dear, 0, 2, 1998, 3000);
        due.is("1998 makes him go", dear.market(0, 1999, 0, 0), 0);
        Due.row(dear, 0, 2, 3000);
        due.is("a LIMIT above 1999 is 1999", dear.market(0, 1999, 0, 1), 1999);
    }

    private static void judge() {
        CarpetEleven x = one(0, 1003);
        due.is("no SELLER", x.judge(1, 0), -2);
        due.is("no SELLER", x.judge(-1, 0), -2);
        due.is("no SHEET", x.judge(0, 4), -2);
        due.is("no SHEET", x.judge(0, -1), -2);
        due.is("missing", x.judge(0, 0), -11);
        Due.row(x, 0, 2, 0, 0, 0, 0, 0, 0, 0);
        due.is("seven words", x.judge(0, 0), -1);
        Due.row(x, 0, 2, 0, 0, 0, 0, 0, 0, 0, 0);
        due.is("an eighth finds him GONE", x.judge(0, 0), 7);
        Due.row(x, 0, 2, 0, 1999, 5);
        due.is("SOLD", x.judge(0, 0), 2);
        Due.row(x, 0, 2, 0, 2000, 5);
        due.is("no bid", x.judge(0, 0), 1);
        Due.row(x, 0, 2, 0, -1);
        due.is("no bid", x.judge(0, 0), 1);
        Due.row(x, 0, 2, 0, 1999);
        due.is("SOLD by the last is fine", x.judge(0, 0), -1);
        due.is("nothing changed", x.told(0, 4), 0);
        Due.row(x, 0, 2, 0, 0, 0, 0, 0, 0, 0);
        x.word(0, 0);
        due.is("from now on", x.judge(0, 0), 6);
        x.agree(0);
        due.is("SOLD ahead of the first", x.judge(0, 0), 0);
        x.sheet(0, 2, 0);
        due.is("no bids", x.judge(0, 0), -1);
    }

    private static void drawn() {
        CarpetEleven x = one(0, 1003);
        due.is("no SELLER", x.drawn(1, 0), -2);
        due.is("no SELLER", x.drawn(-1, 0), -2);
        int[] seeds = {0, 1, 5, -1, 77777, Integer.MIN_VALUE, Integer.MAX_VALUE};
        for (int kind = 0; kind < 6; kind++) {
            for (int seed : seeds) {
                CarpetEleven y = one(kind, 1503);
                int got = y.drawn(0, seed);
                due.is("nothing changed", y.told(0, 4), 0);
                int z = seed;
                int stands = 0;
                while (stands == 0) {
                    z = z * 1103515245 + 12345;
                    stands = y.word(0, (z >>> 11) % 400);
                }
                due.is("drawn by " + seed, got, stands);
                due.is("how he stands", y.drawn(0, 3), stands);
            }
        }
    }

    private static void odds() {
        CarpetEleven x = one(1, 1503);
        long no = CarpetEleven.NO;
        due.is("no SELLER", x.odds(1, 0, 1, 0), no);
        due.is("no SELLER", x.odds(-1, 0, 1, 0), no);
        due.is("many 0", x.odds(0, 0, 0, 0), no);
        due.is("many 31", x.odds(0, 0, 31, 0), no);
        due.is("part -1", x.odds(0, 0, 1, -1), no);
        due.is("part 2", x.odds(0, 0, 1, 2), no);
        int[] seeds = {0, 5, -3, Integer.MAX_VALUE - 4};
        for (int seed : seeds) {
            CarpetEleven y = one(1, 1503);
            int sold = 0;
            for (int many = 1; many <= 30; many++) {
                sold += y.drawn(0, seed + many - 1) == 1 ? 1 : 0;
                long above = y.odds(0, seed, many, 0);
                long below = y.odds(0, seed, many, 1);
                due.is("the same part", above * many, below * sold);
                due.holds("below the line", below >= 1);
                for (int d = 2; d <= 30; d++) {
                    due.holds("lowest terms", above % d != 0 || below % d != 0);
                }
            }
        }
        x.agree(0);
        due.is("SOLD: all", x.odds(0, 0, 12, 0), 1);
        due.is("SOLD: all", x.odds(0, 0, 12, 1), 1);
        CarpetEleven gone = one(3, 0);
        gone.word(0, 0);
        gone.word(0, 0);
        gone.word(0, 0);
        due.is("GONE: none", gone.odds(0, 0, 12, 0), 0);
        due.is("GONE: none", gone.odds(0, 0, 12, 1), 1);
    }

    private static void image() {
        CarpetEleven x = one(0, 1003);
        due.is("none yet", x.back(), -3);
        Due.text(x, "least 1;first 2;pull 3;");
        x.seller(1, 505);
        x.word(0, 0);
        x.agree(1);
        due.is("image", x.image(), 1);
        x.agree(0);
        x.anew(1);
        x.set(3, 0, 7);
        x.set(0, 0, 1);
        x.set(1, 0, 2);
        x.set(2, 0, 3);
        x.force(1);
        x.seller(5, 123);
        x.feed(32);
        due.is("back", x.back(), 2);
        int[] first = {0, 7, 3, 210, 1, 0, -1};
        int[] second = {1, 50, 5, 180, 0, 1, 180};
        int[] third = {5, 12, 3, 2, 0, 0, -1};
        for (int what = 0; what < 7; what++) {
            due.is("first " + what, x.told(0, what), first[what]);
            due.is("second " + what, x.told(1, what), second[what]);
            due.is("third " + what, x.told(2, what), third[what]);
        }
        int[] counts = {3, 2, 1, 4, 12, 250, 2, 1, 0};
        for (int what = 0; what < 9; what++) {
            due.is("count " + what, x.count(what), counts[what]);
        }
        x.agree(2);
        x.agree(0);
        due.is("back again", x.back(), 1);
        due.is("who came since stays as he is", x.told(2, 5), 1);
        due.is("LEAST is by THE RULE of THE IMAGE", x.told(0, 7), 15);
        x.set(0, 0, 8);
        due.is("a later image", x.image(), 1);
        x.set(0, 0, 2);
        x.anew(2);
        due.is("back to the later", x.back(), 1);
        due.is("SHOES", x.count(3), 8);
        due.is("the third", x.told(2, 5), 1);
        CarpetEleven y = new CarpetEleven();
        due.is("an image of none", y.image(), 0);
        y.seller(0, 0);
        due.is("back to none", y.back(), 1);
    }

    private static void count() {
        CarpetEleven x = new CarpetEleven();
        due.is("count(-1)", x.count(-1), -2);
        due.is("count(9)", x.count(9), -2);
        x.seller(0, 0);
        x.seller(0, 0);
        x.seller(3, 0);
        x.agree(0);
        x.word(2, 0);
        x.word(2, 0);
        x.word(2, 0);
        x.feed(1);
        x.feed(2);
        x.set(0, 0, 9);
        x.set(1, 0, 23);
        x.set(2, 0, 1999);
        int[] want = {3, 1, 1, 9, 23, 1999, 1, 2, 0};
        for (int what = 0; what < 9; what++) {
            due.is("count(" + what + ")", x.count(what), want[what]);
        }
        x.text();
        Due.text(x, "least 1;first 2;pull 3;");
        x.force(1);
        due.is("TEXTS", x.count(6), 2);
        due.is("THE RULE", x.count(8), 1);
    }
}
