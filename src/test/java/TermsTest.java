/**
 * The document's Terms, sentence by sentence: each that names a boundary has a test of its own,
 * with the last number that is still taken and the first that isn't.
 */
public final class TermsTest {
    private static final Due due = new Due("TermsTest");
    private static final int[] UNDER = {-1, 0, 0, 2, 1, 1};

    public static void main(String[] args) {
        sixSellersNumberedFromZero();
        kindsZeroToFive();
        costsAndNumbers();
        atFirst();
        priceIfSold();
        aPriceOfZeroIsAPrice();
        shoesHourLimit();
        stepsOfASeller();
        stepsOfAHalver();
        stepsOfAStiff();
        stepsOfASlip();
        stepsOfABrother();
        stepsOfAnEager();
        noStepsIfNotBelow();
        sellersTake();
        slipsTake();
        brothersTake();
        eagersTake();
        brothersTakeAsHalversAtCupThree();
        stays();
        takenAtTheLastCup();
        boundsOfLeast();
        boundsOfFirst();
        boundsOfPull();
        boundsThatWrap();
        textZero();
        allBeginsAnew();
        leastIsToldByTheWord();
        nextIsLeastAtLeast();
        nextIsSaidAtMost();
        pullAtTheFirstCupAlone();
        bidsZeroTo1999();
        agreeAtSaid();
        due.finish();
    }

    /** One SELLER by a text of one's own, THE HOUR 12, SHOES 4. */
    private static CarpetEleven by(String text, int kind, int what) {
        CarpetEleven x = new CarpetEleven();
        due.is("text of " + text, Due.text(x, text), 1);
        x.force(1);
        due.is("seller", x.seller(kind, what), 0);
        return x;
    }

    // ---- 6 at most, numbered from 0; KIND; COST 0 .. 999; NUMBER 0 .. 9; at first

    private static void sixSellersNumberedFromZero() {
        CarpetEleven x = new CarpetEleven();
        due.is("none is there", x.told(0, 0), -2);
        for (int i = 0; i < 6; i++) {
            due.is("no SELLER " + i + " yet", x.anew(i), -2);
            due.is("one comes", x.seller(0, 0), i);
            due.is("now there is", x.anew(i), 80);
        }
        due.is("a seventh", x.seller(0, 0), -4);
        due.is("no SELLER 6", x.anew(6), -2);
        due.is("six", x.count(0), 6);
    }

    private static void kindsZeroToFive() {
        for (int kind = 0; kind <= 5; kind++) {
            CarpetEleven x = new CarpetEleven();
            due.is("KIND " + kind, x.seller(kind, 17), 0);
            due.is("his KIND", x.told(0, 0), kind);
            for (int k = 0; k <= 5; k++) {
                boolean under = false;
                for (int up = kind; up >= 0; up = UNDER[up]) {
                    under |= up == k;
                }
                due.is("KIND " + kind + " taken for " + k, x.taken(0, k), under ? 7 : -13);
            }
        }
        CarpetEleven x = new CarpetEleven();
        due.is("KIND -1", x.seller(-1, 17), -2);
        due.is("KIND 6", x.seller(6, 17), -2);
    }

    private static void costsAndNumbers() {
        int[][] want = {{0, 0, 0}, {9, 0, 9}, {10, 1, 0}, {9989, 998, 9}, {9990, 999, 0}, {9999, 999, 9}};
        CarpetEleven x = new CarpetEleven();
        for (int i = 0; i < want.length; i++) {
            due.is("seller(0, " + want[i][0] + ")", x.seller(0, want[i][0]), i);
            due.is("COST", x.told(i, 1), want[i][1]);
            due.is("NUMBER", x.told(i, 2), want[i][2]);
        }
        CarpetEleven y = new CarpetEleven();
        due.is("below", y.seller(0, -1), -2);
        due.is("above", y.seller(0, 10000), -2);
        y.seller(0, 5);
        due.is("COST 999", y.set(3, 0, 999), 0);
        due.is("COST 1000", y.set(3, 0, 1000), -2);
        due.is("COST -1", y.set(3, 0, -1), -2);
        due.is("COST 0", y.set(3, 0, 0), 999);
        due.is("NUMBER stays", y.told(0, 2), 5);
    }

    private static void atFirst() {
        CarpetEleven x = new CarpetEleven();
        x.seller(4, 1009);
        due.is("no CUPS", x.told(0, 4), 0);
        due.is("open", x.told(0, 5), 0);
        due.is("no PRICE", x.told(0, 6), -1);
        due.is("open ones", x.count(1), 1);
        due.is("SOLD ones", x.count(2), 0);
    }

    private static void priceIfSold() {
        CarpetEleven x = new CarpetEleven();
        x.seller(3, 1000);
        x.seller(3, 1000);
        x.seller(3, 1000);
        x.word(0, 280);
        x.agree(1);
        x.word(2, 0);
        due.is("open", x.told(2, 6), -1);
        x.word(2, 0);
        x.word(2, 0);
        due.is("GONE", x.told(2, 5), 2);
        due.is("GONE", x.told(2, 6), -1);
        due.is("SOLD by a word", x.told(0, 6), 280);
        due.is("SOLD by agreeing", x.told(1, 6), 280);
        due.is("anew", x.anew(0), 280);
        due.is("open again", x.told(0, 6), -1);
        x.set(3, 1, 5);
        due.is("a COST is set", x.told(1, 6), -1);
    }

    private static void aPriceOfZeroIsAPrice() {
        CarpetEleven x = by("least 0;first 0;pull 0;", 0, 9);
        x.seller(0, 9);
        due.is("rule: SOLD", x.rule(0, 0, 0, 0), 1);
        due.is("rule: PRICE", x.rule(0, 0, 0, 1), 0);
        due.is("bestRule", x.bestRule(0, 0), 0);
        due.is("bestRule: PRICE", x.bestRule(0, 1), 0);
        due.is("bestRule: CUPS", x.bestRule(0, 2), 0);
        due.is("bestAt: SHOES", x.bestAt(0, 0, 0, 0), 0);
        due.is("bestAt: HOUR", x.bestAt(0, 0, 0, 1), 0);
        due.is("whom", x.whom(0, 0), 0);
        due.is("allInTurn", x.allInTurn(0, 0, 0), 0);
        due.is("slipped", x.slipped(0, 0, 0), 0);
        Due.row(x, 0, 2, 0, 0, 0);
        due.is("market: SOLD", x.market(0, 0, 0, 0), 2);
        due.is("market: PRICES", x.market(0, 0, 0, 1), 0);
        due.is("market: missed", x.market(0, 0, 0, 2), 0);
        due.is("word", x.word(0, 0), 1);
        due.is("its PRICE", x.told(0, 6), 0);
        due.is("agree", x.agree(1), 0);
        due.is("its PRICE", x.told(1, 6), 0);
    }

    private static void shoesHourLimit() {
        CarpetEleven x = new CarpetEleven();
        int[] first = {4, 12, 250};
        int[] top = {9, 23, 1999};
        for (int what = 0; what < 3; what++) {
            due.is("at first", x.count(3 + what), first[what]);
            due.is("the greatest", x.set(what, 0, top[what]), first[what]);
            due.is("above", x.set(what, 0, top[what] + 1), -2);
            due.is("below", x.set(what, 0, -1), -2);
            due.is("it stays", x.count(3 + what), top[what]);
            due.is("the least", x.set(what, 0, 0), top[what]);
            due.is("it is", x.count(3 + what), 0);
        }
    }

    // ---- STEPS: he says 1000 (LEAST 0 at most of bids), and one bids d less

    /** How much less he says behind a bid that is d below 1000, at CUP 1. */
    private static int step(int kind, int number, int hour, int d) {
        CarpetEleven x = new CarpetEleven();
        // LEAST is one above the bid, so that nobody takes it, a SLIP neither.
        Due.text(x, "least bid + 1;first 1000;pull 0;");
        x.force(1);
        x.set(1, 0, hour);
        x.seller(kind, number);
        due.is("word", x.word(0, 1000 - d), 0);
        return 1000 - x.told(0, 3);
    }

    private static void stepsOfASeller() {
        int[] want = {0, 0, 0, 0, 1, 1, 1, 1, 2};
        for (int d = 1; d <= 8; d++) {
            due.is("a quarter of " + d, step(0, 9, 23, d), want[d]);
        }
        due.is("a quarter of 999", step(0, 0, 23, 999), 249);
        due.is("a quarter of 1000", step(0, 0, 23, 1000), 250);
    }

    private static void stepsOfAHalver() {
        int[] want = {0, 0, 0, 0, 2, 2, 2, 2, 4};
        for (int d = 1; d <= 8; d++) {
            due.is("twice a quarter of " + d, step(1, 9, 23, d), want[d]);
        }
        due.is("twice a quarter of 999", step(1, 0, 23, 999), 498);
        due.is("twice a quarter of 1000", step(1, 0, 23, 1000), 500);
    }

    private static void stepsOfAStiff() {
        for (int number = 0; number <= 9; number += 3) {
            int most = number + 1;
            due.is("below the most", step(2, number, 23, 4 * most - 1), number);
            due.is("the most", step(2, number, 23, 4 * most), most);
            due.is("no more than that", step(2, number, 23, 4 * most + 4), most);
            due.is("no more than that", step(2, number, 23, 1000), most);
        }
    }

    private static void stepsOfASlip() {
        for (int d : new int[] {1, 4, 8, 999, 1000}) {
            due.is("a SLIP, " + d + " below", step(3, 9, 23, d), 0);
        }
    }

    private static void stepsOfABrother() {
        // NUMBER 9: 90 more at CUP 3 alone; bids of 4 are below LEAST 5.
        CarpetEleven x = by("least 5;first 1999;pull 0;", 4, 9);
        int said = 1999;
        for (int cup = 1; cup <= 5; cup++) {
            due.is("word", x.word(0, 4), 0);
            said -= 2 * ((said - 4) / 4) + (cup == 3 ? 90 : 0);
            due.is("SAID behind CUP " + cup, x.told(0, 3), said);
        }
        CarpetEleven y = by("least 5;first 1999;pull 0;", 4, 0);
        y.word(0, 1998);
        y.word(0, 1998);
        y.word(0, 1998);
        due.is("10 times 0", y.told(0, 3), 1999);
        CarpetEleven z = by("least 5;first 1999;pull 0;", 4, 1);
        z.word(0, 1998);
        z.word(0, 1998);
        due.is("CUP 2", z.told(0, 3), 1999);
        z.word(0, 4);
        due.is("10 times 1", z.told(0, 3), 1999 - 2 * 498 - 10);
    }

    private static void stepsOfAnEager() {
        // LEAST, one above the bid, is far below: 1000 less 2 * (d / 4) less THE HOUR.
        for (int hour : new int[] {0, 1, 22, 23}) {
            due.is("at " + hour, step(5, 0, hour, 100), 50 + hour);
            due.is("at " + hour, step(5, 9, hour, 103), 50 + hour);
        }
        due.is("but LEAST is the least", step(5, 9, 23, 3), 2);
        due.is("the others have no HOUR", step(1, 9, 23, 100), 50);
        due.is("the others have no HOUR", step(4, 9, 23, 100), 50);
    }

    private static void noStepsIfNotBelow() {
        // LEAST is above whatever is bid, so nobody takes it, but a SLIP from SAID on.
        for (int kind = 0; kind < 6; kind++) {
            for (int bid = 1000; bid <= 1001; bid++) {
                CarpetEleven x = by("least bid + 1;first 1000;pull 0;", kind, 9);
                due.is("KIND " + kind + " at " + bid, x.word(0, bid), kind == 3 ? 1 : 0);
                due.is("SAID", x.told(0, 3), 1000);
            }
        }
    }

    // ---- TAKES

    private static int hears(String text, int kind, int what, int... bids) {
        CarpetEleven x = by(text, kind, what);
        for (int i = 0; i + 1 < bids.length; i++) {
            due.is("not taken yet", x.word(0, bids[i]), 0);
        }
        return x.word(0, bids[bids.length - 1]);
    }

    private static void sellersTake() {
        for (int kind : new int[] {0, 1, 2, 4}) {
            String low = "least 50;first 100;pull 0;";
            due.is("below what he says next", hears(low, kind, 9, 99), 0);
            due.is("what he says next", hears(low, kind, 9, 100), 1);
            due.is("above it", hears(low, kind, 9, 101), 1);
            String high = "least (0 < cups) * 150;first 100;pull 0;";
            due.is("SAID, but below LEAST", hears(high, kind, 9, 100), 0);
            due.is("one below LEAST", hears(high, kind, 9, 149), 0);
            due.is("LEAST", hears(high, kind, 9, 150), 1);
        }
    }

    private static void slipsTake() {
        String high = "least (0 < cups) * 150;first 100;pull 0;";
        due.is("one below SAID", hears(high, 3, 9, 99), 0);
        due.is("SAID, though LEAST is above", hears(high, 3, 9, 100), 1);
        due.is("above SAID", hears(high, 3, 9, 101), 1);
        due.is("LEAST, far below SAID", hears("least 50;first 100;pull 0;", 3, 9, 50), 0);
    }

    private static void brothersTake() {
        String low = "least 50;first 1999;pull 0;";
        due.is("LEAST at CUP 1", hears(low, 4, 0, 50), 0);
        due.is("LEAST at CUP 2", hears(low, 4, 0, 0, 50), 0);
        due.is("LEAST at CUP 3", hears(low, 4, 0, 0, 0, 50), 0);
        due.is("LEAST at CUP 4", hears(low, 4, 0, 0, 0, 0, 50), 1);
        due.is("one below LEAST at CUP 4", hears(low, 4, 0, 0, 0, 0, 49), 0);
        due.is("LEAST at CUP 5", hears(low, 4, 1, 0, 0, 0, 0, 50), 1);
        due.is("one below LEAST at CUP 5", hears(low, 4, 1, 0, 0, 0, 0, 49), 0);
        due.is("a HALVER never", hears(low, 1, 1, 0, 0, 0, 0, 50), 0);
    }

    private static void eagersTake() {
        String low = "least 50;first 100;pull 0;";
        due.is("one below LEAST", hears(low, 5, 9, 49), 0);
        due.is("LEAST", hears(low, 5, 9, 50), 1);
        due.is("above LEAST", hears(low, 5, 9, 51), 1);
        String high = "least (0 < cups) * 150;first 100;pull 0;";
        due.is("SAID, but below LEAST", hears(high, 5, 9, 100), 0);
        due.is("one below LEAST", hears(high, 5, 9, 149), 0);
        due.is("LEAST", hears(high, 5, 9, 150), 1);
    }

    private static void brothersTakeAsHalversAtCupThree() {
        // NUMBER 1: at CUP 3 he would say d - 2 * (d / 4) - 10 above the bid that is d below.
        String text = "least 5;first 1000;pull 0;";
        int[][] want = {{16, 1}, {17, 1}, {18, 1}, {19, 0}, {20, 1}, {21, 0}, {22, 0}, {24, 0}};
        for (int[] w : want) {
            CarpetEleven x = by(text, 4, 1);
            x.word(0, 999);
            x.word(0, 999);
            due.is("SAID", x.told(0, 3), 1000);
            due.is(w[0] + " below, at CUP 3", x.word(0, 1000 - w[0]), w[1]);
            CarpetEleven y = by(text, 4, 1);
            y.word(0, 999);
            due.is(w[0] + " below, at CUP 2", y.word(0, 1000 - w[0]), 0);
        }
    }

    // ---- STAYS

    private static void stays() {
        for (int number = 0; number <= 9; number++) {
            int seller = 4 + number;
            int[] want = {seller, seller + 1, seller / 2, seller / 2 + 1, seller + 1, 2 * (seller + 1)};
            for (int kind = 0; kind < 6; kind++) {
                CarpetEleven x = by("least bid + 1;first 1999;pull 0;", kind, number);
                due.is("STAYS of KIND " + kind + ", NUMBER " + number, x.told(0, 8), want[kind]);
                for (int cup = 1; cup < want[kind]; cup++) {
                    due.is("CUP " + cup, x.word(0, 0), 0);
                }
                int said = x.told(0, 3);
                due.is("the last CUP", x.word(0, 0), 2);
                due.is("CUPS", x.told(0, 4), want[kind]);
                due.is("SAID stays", x.told(0, 3), said);
                due.is("STAYS does", x.told(0, 8), want[kind]);
            }
        }
    }

    private static void takenAtTheLastCup() {
        for (int kind = 0; kind < 6; kind++) {
            CarpetEleven x = by("least 100;first 100;pull 0;", kind, 0);
            int last = x.told(0, 8);
            for (int cup = 1; cup < last; cup++) {
                x.word(0, 0);
            }
            due.is("it is SOLD, he is not GONE", x.word(0, 100), 1);
            due.is("CUPS", x.told(0, 4), last);
        }
    }

    // ---- what the texts tell, and its bounds

    private static void boundsOfLeast() {
        String[] texts = {"least 0-1;", "least 0;", "least 1;", "least 1998;", "least 1999;", "least 2000;"};
        int[] want = {0, 0, 1, 1998, 1999, 1999};
        for (int i = 0; i < texts.length; i++) {
            CarpetEleven x = by(texts[i] + "first 0;pull 0;", 0, 0);
            due.is(texts[i], x.told(0, 7), want[i]);
        }
    }

    private static void boundsOfFirst() {
        String[] texts = {"first 0-1;", "first 49;", "first 50;", "first 51;", "first 1998;", "first 1999;",
            "first 2000;", "first 9999;"};
        int[] want = {50, 50, 50, 51, 1998, 1999, 1999, 1999};
        for (int i = 0; i < texts.length; i++) {
            CarpetEleven x = by("least 50;" + texts[i] + "pull 0;", 0, 0);
            due.is(texts[i], x.told(0, 3), want[i]);
        }
        due.is("LEAST and first above 1999", by("least 2000;first 0;pull 0;", 0, 0).told(0, 3), 1999);
    }

    private static void boundsOfPull() {
        String[] texts = {"pull 0-1;", "pull 0;", "pull 1;", "pull 98;", "pull 99;", "pull 100;", "pull 9999;"};
        int[] want = {0, 0, 1, 98, 99, 99, 99};
        for (int i = 0; i < texts.length; i++) {
            CarpetEleven x = by("least 0;first 1000;" + texts[i], 0, 0);
            x.word(0, 0);
            due.is(texts[i], x.told(0, 3), 750 + want[i]);
        }
    }

    private static void boundsThatWrap() {
        // 9999 * 9999 * 22 is above 2^31 and wraps below 0; times 43 it is above 0 again.
        int below = 9999 * 9999 * 22;
        int above = 9999 * 9999 * 43;
        due.holds("wrapped numbers", below < 0 && above > 1999);
        due.is("LEAST below", by("least 9999*9999*22;first 0;pull 0;", 0, 0).told(0, 7), 0);
        due.is("LEAST above", by("least 9999*9999*43;first 0;pull 0;", 0, 0).told(0, 7), 1999);
        due.is("first below", by("least 7;first 9999*9999*22;pull 0;", 0, 0).told(0, 3), 7);
        due.is("first above", by("least 7;first 9999*9999*43;pull 0;", 0, 0).told(0, 3), 1999);
        CarpetEleven x = by("least 0;first 1000;pull 9999*9999*22;", 0, 0);
        x.word(0, 0);
        due.is("pull below", x.told(0, 3), 750);
        CarpetEleven y = by("least 0;first 1000;pull 9999*9999*43;", 0, 0);
        y.word(0, 0);
        due.is("pull above", y.told(0, 3), 849);
    }

    private static void textZero() {
        CarpetEleven x = new CarpetEleven();
        due.is("it is THE RULE", x.count(8), 0);
        due.is("it is one TEXT", x.count(6), 1);
        x.seller(0, 1000);
        due.is("first: 2 * 100 + 4 * 20", x.told(0, 3), 280);
        due.is("LEAST: 100 + 4 * 2", x.told(0, 7), 108);
        x.set(1, 0, 9);
        due.is("not below 9", x.told(0, 7), 108);
        x.set(1, 0, 8);
        due.is("below 9", x.told(0, 7), 98);
        x.set(0, 0, 0);
        due.is("SHOES 0", x.told(0, 7), 90);
        due.is("first in SHOES 0", x.anew(0), 200);
        x.set(0, 0, 9);
        due.is("SHOES 9", x.told(0, 7), 108);
        due.is("first in SHOES 9", x.anew(0), 380);
        x.word(0, 100);
        due.is("pull 0", x.told(0, 3), 310);
        x.set(0, 0, 0);
        x.set(3, 0, 9);
        due.is("LEAST 9 - 10 is 0", x.told(0, 7), 0);
        x.set(3, 0, 11);
        due.is("LEAST 11 - 10", x.told(0, 7), 1);
        x.set(0, 0, 9);
        x.set(3, 0, 909);
        due.is("2 * 909 + 180", x.told(0, 3), 1998);
        x.set(3, 0, 910);
        due.is("2 * 910 + 180 is 1999", x.told(0, 3), 1999);
    }

    // ---- how one begins, a WORD, to AGREE

    private static void allBeginsAnew() {
        // LEAST and first are told by bid, said, cups 0: were they not, he would say more.
        String text = "least 10 + bid + said + 50 * cups;first 5 + bid + said + cups;pull 0;";
        CarpetEleven x = by(text, 0, 9);
        due.is("one who comes", x.told(0, 3), 10);
        due.is("word", x.word(0, 0), 0);
        due.is("CUPS", x.told(0, 4), 1);
        due.is("anew", x.anew(0), 10);
        due.is("no CUPS", x.told(0, 4), 0);
        x.word(0, 0);
        x.word(0, 0);
        due.is("a COST is set", x.set(3, 0, 3), 0);
        due.is("SAID", x.told(0, 3), 10);
        due.is("no CUPS", x.told(0, 4), 0);
        x.agree(0);
        due.is("set to what it was", x.set(3, 0, 3), 3);
        due.is("it begins anew, too", x.told(0, 5), 0);
        CarpetEleven zero = by("least bid+said+cups;first 5+bid+said+cups;pull 0;", 0, 9);
        due.is("one who comes", zero.told(0, 3), 5);
        zero.word(0, 0);
        due.is("anew", zero.anew(0), 5);
        CarpetEleven gone = by(text, 3, 0);
        gone.word(0, 0);
        gone.word(0, 0);
        gone.word(0, 0);
        due.is("GONE", gone.told(0, 5), 2);
        due.is("anew", gone.anew(0), 10);
        due.is("open", gone.told(0, 5), 0);
        CarpetEleven two = by("least 0;first 7;pull 0;", 0, 9);
        two.seller(0, 9);
        two.word(0, 0);
        two.word(1, 0);
        two.anew(0);
        due.is("the other stays", two.told(1, 4), 1);
    }

    private static void leastIsToldByTheWord() {
        // bid: what was bid; cups: this one with it; said: what he says ahead of it.
        CarpetEleven x = by("least 100 * cups;first 1000;pull 0;", 5, 9);
        due.is("LEAST now", x.told(0, 7), 0);
        due.is("at CUP 1: 99", x.word(0, 99), 0);
        due.is("LEAST now", x.told(0, 7), 100);
        due.is("at CUP 2: 199", x.word(0, 199), 0);
        due.is("at CUP 3: 300", x.word(0, 300), 1);
        CarpetEleven y = by("least said;first 1000 * (said = 0);pull 0;", 5, 9);
        due.is("one below what he says", y.word(0, 999), 0);
        due.is("SAID stays", y.told(0, 3), 1000);
        due.is("LEAST now is what he says", y.told(0, 7), 1000);
        due.is("what he says", y.word(0, 1000), 1);
        CarpetEleven z = by("least 700 - bid;first 1000;pull 0;", 5, 9);
        due.is("LEAST now, by bid 0", z.told(0, 7), 700);
        due.is("349 is below 351", z.word(0, 349), 0);
        due.is("350 is 350", z.word(0, 350), 1);
    }

    private static void nextIsLeastAtLeast() {
        int[] least = {749, 750, 751, 999, 1000};
        int[] said = {750, 750, 751, 999, 1000};
        for (int i = 0; i < least.length; i++) {
            CarpetEleven x = by("least " + least[i] + ";first 1000;pull 0;", 0, 9);
            x.word(0, 0);
            due.is("LEAST " + least[i], x.told(0, 3), said[i]);
        }
    }

    private static void nextIsSaidAtMost() {
        int[] least = {1000, 1001, 1999};
        for (int l : least) {
            CarpetEleven x = by("least (0 < cups) * " + l + ";first 1000;pull 0;", 0, 9);
            x.word(0, 0);
            due.is("LEAST " + l, x.told(0, 3), 1000);
        }
        int[] bids = {604, 603, 600, 596};
        int[] said = {1000, 1000, 999, 998};
        for (int i = 0; i < bids.length; i++) {
            CarpetEleven x = by("least 0;first 1000;pull 99;", 0, 9);
            x.word(0, bids[i]);
            due.is("pull 99 behind " + bids[i], x.told(0, 3), said[i]);
        }
    }

    private static void pullAtTheFirstCupAlone() {
        CarpetEleven x = by("least 0;first 1000;pull 50;", 0, 9);
        x.word(0, 0);
        due.is("CUP 1", x.told(0, 3), 800);
        x.word(0, 0);
        due.is("CUP 2", x.told(0, 3), 600);
        x.anew(0);
        x.word(0, 0);
        due.is("CUP 1 anew", x.told(0, 3), 800);
        // pull is told by the word: bid, SAID, CUPS 1.
        CarpetEleven y = by("least 0;first 1000;pull bid + (said = 1000) * 10 + cups;", 0, 9);
        y.word(0, 4);
        due.is("bid 4, 10, 1 CUP", y.told(0, 3), 1000 - 249 + 15);
        // What one would take is by it, too: he would say 1000 - 10 + 99 at 960, at most 1000.
        due.is("pull keeps him from it", hears("least 0;first 1000;pull 99;", 4, 9, 960), 0);
        // Since he says SAID at most, SAID is taken, with pull, too.
        for (int kind = 0; kind < 6; kind++) {
            due.is("SAID", hears("least 999;first 1000;pull 99;", kind, 9, 1000), 1);
            due.is("one below", hears("least 999;first 1000;pull 99;", kind, 9, 999), kind == 5 ? 1 : 0);
        }
        CarpetEleven slip = by("least 0;first 1000;pull 99;", 3, 9);
        slip.word(0, 5);
        due.is("a SLIP says SAID at most", slip.told(0, 3), 1000);
    }

    private static void bidsZeroTo1999() {
        CarpetEleven x = by("least 0;first 1999;pull 0;", 3, 9);
        due.is("-1", x.word(0, -1), -2);
        due.is("2000", x.word(0, 2000), -2);
        due.is("no CUPS", x.told(0, 4), 0);
        due.is("0", x.word(0, 0), 0);
        due.is("1998", x.word(0, 1998), 0);
        due.is("1999", x.word(0, 1999), 1);
        due.is("PRICE", x.told(0, 6), 1999);
        due.is("CUPS", x.told(0, 4), 3);
        due.is("it is SOLD", x.word(0, 1999), -3);
    }

    private static void agreeAtSaid() {
        CarpetEleven x = by("least 0;first 1999;pull 0;", 0, 9);
        x.seller(0, 9);
        due.is("without a CUP", x.agree(0), 1999);
        due.is("CUPS", x.told(0, 4), 0);
        due.is("open ones", x.count(1), 1);
        due.is("SOLD ones", x.count(2), 1);
        x.word(1, 999);
        due.is("behind a CUP", x.agree(1), 1749);
        due.is("SAID stays", x.told(1, 3), 1749);
        due.is("open ones", x.count(1), 0);
        due.is("SOLD ones", x.count(2), 2);
    }
}
