/**
 * What the document says of BY RULE, of what would be best, of markets, of judging and drawing and
 * of THE IMAGE, sentence by sentence: each that names a boundary has a test of its own.
 */
public final class ThoughtEdgesTest {
    private static final Due due = new Due("ThoughtEdgesTest");

    /** An EAGER says 1000 all the time, and sells at the first number that is COST or more. */
    private static final String FROM_COST = "least (bid<cost)*(0<cups)*1999;first 1000;pull 0;";
    /** An EAGER says 1999 all the time, and sells at COST alone. */
    private static final String AT_COST = "least (not bid=cost)*(0<cups)*1999;first 1999;pull 0;";
    /** An EAGER sells at COST alone, and that at the CUP that is THE HOUR alone. */
    private static final String AT_HOUR = "least(not(bid=cost and cups=hour))*(0<cups)*1999;first 1999;pull 0;";
    /** An EAGER sells below COST alone, and that at the first CUP alone. */
    private static final String BELOW_COST = "least(not(bid<cost and cups=1))*(0<cups)*1999;first 1999;pull 0;";

    public static void main(String[] args) {
        theNumbersOfARule();
        aZeroTo1999();
        tenthsZeroToTen();
        limitAtMost();
        agreesAtSaidOrMore();
        whileOpen();
        fromNowOn();
        bestRuleOfWhich();
        bestRuleOfLikeOnes();
        bestRuleOfOpenOnes();
        bestShoes();
        bestHour();
        bestAtBeginsAnew();
        whom();
        allInTurn();
        hisCostZeroTo999();
        hisCostFromTheBeginning();
        hisCostStandsOpenBehindEach();
        hisCostBids();
        hisCostSize();
        slipped();
        marketLimits();
        marketGoesOn();
        marketMissed();
        judged();
        judgedBids();
        drawnBids();
        drawnTillOtherwise();
        oddsOfSeeds();
        oddsInLowestTerms();
        imageKeeps();
        imageKeepsWhatWasSet();
        imageKeepsNotMore();
        imageOfNone();
        counts();
        due.finish();
    }

    private static CarpetEleven by(String text, int kind, int what) {
        CarpetEleven x = new CarpetEleven();
        due.is("text of " + text, Due.text(x, text), 1);
        x.force(1);
        due.is("seller", x.seller(kind, what), 0);
        return x;
    }

    private static void ends(CarpetEleven x, int a, int p, int stands, int price, int cups) {
        due.is("rule " + a + ", " + p + ": how he STANDS", x.rule(0, a, p, 0), stands);
        due.is("rule " + a + ", " + p + ": the PRICE", x.rule(0, a, p, 1), price);
        due.is("rule " + a + ", " + p + ": CUPS", x.rule(0, a, p, 2), cups);
    }

    // ---- BY RULE

    private static void theNumbersOfARule() {
        int[] numbers = {0, 300, 510, 657, 759, 831, 881, 916, 941, 958, 970, 979, 985, 989, 992, 994, 995,
            996, 997};
        CarpetEleven x = by(FROM_COST, 5, 9);
        x.set(2, 0, 1999);
        for (int i = 0; i < numbers.length; i++) {
            x.set(3, 0, numbers[i]);
            ends(x, 0, 3, 1, numbers[i], i + 1);
            x.set(3, 0, numbers[i] + 1);
            if (i + 1 < numbers.length) {
                ends(x, 0, 3, 1, numbers[i + 1], i + 2);
            } else {
                // No tenth is left that isn't cut to 0: he is GONE, by twice a HALVER's CUPS.
                ends(x, 0, 3, 2, -1, 28);
            }
        }
    }

    private static void aZeroTo1999() {
        CarpetEleven x = by(FROM_COST, 5, 9);
        x.set(2, 0, 1999);
        ends(x, 0, 0, 1, 0, 1);
        ends(x, 1999, 0, 1, 1000, 0);
        due.is("a -1", x.rule(0, -1, 0, 0), -2);
        due.is("a 2000", x.rule(0, 2000, 0, 0), -2);
    }

    private static void tenthsZeroToTen() {
        CarpetEleven x = by(FROM_COST, 5, 9);
        x.set(2, 0, 1999);
        x.set(3, 0, 501);
        ends(x, 500, 0, 2, -1, 28);
        x.set(3, 0, 500);
        ends(x, 500, 0, 1, 500, 1);
        for (int p = 1; p <= 9; p++) {
            x.set(3, 0, p * 100);
            ends(x, 0, p, 1, p * 100, 2);
        }
        x.set(3, 0, 1);
        ends(x, 0, 10, 1, 1000, 1);
        due.is("p -1", x.rule(0, 0, -1, 0), -2);
        due.is("p 11", x.rule(0, 0, 11, 0), -2);
        // 3 tenths of 3 are cut to 0, 4 tenths of 3 to 1.
        x.set(3, 0, 998);
        ends(x, 997, 3, 2, -1, 28);
        ends(x, 997, 4, 1, 998, 2);
    }

    private static void limitAtMost() {
        CarpetEleven x = by(FROM_COST, 5, 9);
        x.set(2, 0, 505);
        x.set(3, 0, 505);
        ends(x, 0, 3, 1, 505, 3);
        ends(x, 505, 0, 1, 505, 1);
        ends(x, 506, 0, 1, 505, 1);
        ends(x, 1999, 10, 1, 505, 1);
        x.set(3, 0, 506);
        ends(x, 0, 3, 2, -1, 28);
        ends(x, 1999, 10, 2, -1, 28);
        x.set(2, 0, 506);
        ends(x, 1999, 10, 1, 506, 1);
        x.set(2, 0, 0);
        ends(x, 1999, 10, 2, -1, 28);
        x.set(3, 0, 0);
        ends(x, 1999, 10, 1, 0, 1);
    }

    private static void agreesAtSaidOrMore() {
        CarpetEleven x = by("least 0;first 1000;pull 0;", 3, 9);
        x.set(2, 0, 1999);
        ends(x, 999, 0, 2, -1, 7);
        ends(x, 1000, 0, 1, 1000, 0);
        ends(x, 1001, 0, 1, 1000, 0);
        ends(x, 999, 9, 2, -1, 7);
        ends(x, 999, 10, 1, 1000, 1);
        x.set(2, 0, 999);
        ends(x, 1999, 10, 2, -1, 7);
        x.set(2, 0, 1000);
        ends(x, 1999, 10, 1, 1000, 0);
        CarpetEleven zero = by("least 0;first 0;pull 0;", 0, 0);
        ends(zero, 0, 0, 1, 0, 0);
        // One agrees at what he says, which is LEAST here, and not at one's number.
        CarpetEleven halver = by("least 700;first 1000;pull 0;", 1, 9);
        halver.set(2, 0, 1999);
        ends(halver, 0, 10, 1, 700, 1);
    }

    private static void whileOpen() {
        CarpetEleven x = by("least 0;first 1000;pull 0;", 3, 0);
        x.word(0, 1);
        x.agree(0);
        ends(x, 0, 0, 1, 1000, 1);
        ends(x, 1999, 10, 1, 1000, 1);
        x.anew(0);
        x.word(0, 1);
        x.word(0, 1);
        x.word(0, 1);
        ends(x, 1999, 10, 2, -1, 3);
    }

    private static void fromNowOn() {
        CarpetEleven x = by("least 0;first 1000;pull 0;", 0, 0);
        x.set(2, 0, 1999);
        ends(x, 0, 0, 2, -1, 4);
        x.word(0, 0);
        // He says 750 now; one's first number is a again.
        ends(x, 750, 0, 1, 750, 1);
        ends(x, 749, 0, 2, -1, 4);
        ends(x, 0, 10, 1, 563, 2);
        x.word(0, 0);
        x.word(0, 0);
        ends(x, 0, 10, 2, -1, 4);
        due.is("CUPS stay", x.told(0, 4), 3);
    }

    // ---- BEST RULE

    private static void bestIs(CarpetEleven x, int rule, int price, int cups) {
        due.is("BEST RULE", x.bestRule(0, 0), rule);
        due.is("its PRICE", x.bestRule(0, 1), price);
        due.is("its CUPS", x.bestRule(0, 2), cups);
    }

    private static void bestRuleOfWhich() {
        CarpetEleven x = by(AT_COST, 5, 9);
        x.set(2, 0, 1998);
        for (int a = 0; a <= 400; a += 20) {
            x.set(3, 0, a);
            bestIs(x, 100 * a, a, 1);
        }
        // No other first number is tried, and no second one comes there.
        for (int none : new int[] {1, 10, 19, 21, 39, 401, 419, 420, 421}) {
            x.set(3, 0, none);
            bestIs(x, -1, -1, -1);
        }
        // p 1 alone: 0, 199; p 9 alone: 0, 1799 (above each COST); p 10: 1998, and never SAID.
        x.set(3, 0, 199);
        bestIs(x, 1, 199, 2);
        CarpetEleven ten = by("least 401;first 401;pull 0;", 3, 9);
        ten.set(2, 0, 1999);
        bestIs(ten, 10, 401, 1);
        ten.set(2, 0, 401);
        bestIs(ten, 10, 401, 1);
        ten.set(2, 0, 400);
        bestIs(ten, -1, -1, -1);
        // 9 tenths of 1110 are 999: no less do.
        CarpetEleven nine = by("least(not bid=999)*(0<cups)*1999;first 1110;pull 0;", 5, 9);
        nine.set(2, 0, 1109);
        bestIs(nine, 9, 999, 2);
    }

    private static void bestRuleOfLikeOnes() {
        CarpetEleven x = by(AT_COST, 5, 9);
        x.set(2, 0, 1998);
        // In fewest CUPS, though a is greater.
        x.set(3, 0, 379);
        bestIs(x, 20001, 379, 2);
        x.set(3, 0, 719);
        bestIs(x, 40002, 719, 2);
        x.set(3, 0, 817);
        bestIs(x, 38001, 817, 4);
        // In like CUPS the least a, though p is greater.
        int[][] like = {{415, 2002}, {559, 20002}, {655, 8003}, {823, 4004}};
        for (int[] l : like) {
            x.set(3, 0, l[0]);
            bestIs(x, l[1], l[0], 2);
        }
        // The least PRICE, though there are fewer CUPS at 400.
        CarpetEleven slow = by("least 400-100*cups;first 400;pull 0;", 0, 9);
        slow.set(2, 0, 400);
        due.holds("a PRICE below what he says at first", slow.bestRule(0, 1) < 400);
        due.holds("behind some CUPS", slow.bestRule(0, 2) > 0);
        due.is("at 400 there are none", slow.rule(0, 400, 0, 2), 0);
        // Of like a the least p.
        CarpetEleven slip = by("least 0;first 0;pull 0;", 3, 9);
        bestIs(slip, 0, 0, 0);
    }

    private static void bestRuleOfOpenOnes() {
        CarpetEleven x = by("least 0;first 100;pull 0;", 3, 0);
        bestIs(x, 10000, 100, 0);
        x.agree(0);
        bestIs(x, -1, -1, -1);
        x.anew(0);
        x.word(0, 0);
        x.word(0, 0);
        due.is("one CUP is left him: at 100", x.bestRule(0, 0), 10000);
        x.word(0, 0);
        due.is("GONE", x.told(0, 5), 2);
        bestIs(x, -1, -1, -1);
    }

    // ---- BEST SHOES, BEST HOUR

    private static void bestShoes() {
        CarpetEleven x = by("least 0;first 500-400*(shoes=cost);pull 0;", 3, 0);
        x.set(2, 0, 1999);
        for (int shoes = 0; shoes <= 9; shoes++) {
            x.set(3, 0, shoes);
            due.is("SHOES " + shoes, x.bestAt(0, 1999, 0, 0), shoes);
        }
        x.set(3, 0, 10);
        due.is("SHOES 10 are none: all alike", x.bestAt(0, 1999, 0, 0), 0);
        x.set(2, 0, 499);
        due.is("by none", x.bestAt(0, 1999, 0, 0), -1);
        x.set(3, 0, 9);
        due.is("by these alone", x.bestAt(0, 1999, 0, 0), 9);
        CarpetEleven two = by("least 0;first 500-400*(shoes=3 or shoes=7);pull 0;", 3, 0);
        due.is("of like ones the least", two.bestAt(0, 1999, 0, 0), 3);
        CarpetEleven less = by("least 0;first 500-400*(shoes=3)-401*(shoes=7);pull 0;", 3, 0);
        due.is("one less is less", less.bestAt(0, 1999, 0, 0), 7);
        due.is("SHOES stay", less.count(3), 4);
    }

    private static void bestHour() {
        CarpetEleven x = by("least 0;first 500-400*(hour=cost);pull 0;", 3, 0);
        x.set(2, 0, 1999);
        for (int hour = 0; hour <= 23; hour++) {
            x.set(3, 0, hour);
            due.is("HOUR " + hour, x.bestAt(0, 1999, 0, 1), hour);
        }
        x.set(3, 0, 24);
        due.is("HOUR 24 is none: all alike", x.bestAt(0, 1999, 0, 1), 0);
        x.set(2, 0, 499);
        due.is("by none", x.bestAt(0, 1999, 0, 1), -1);
        x.set(3, 0, 23);
        due.is("by this alone", x.bestAt(0, 1999, 0, 1), 23);
        CarpetEleven two = by("least 0;first 500-400*(hour=5 or hour=19);pull 0;", 3, 0);
        due.is("of like ones the least", two.bestAt(0, 1999, 0, 1), 5);
        due.is("THE HOUR stays", two.count(4), 12);
    }

    private static void bestAtBeginsAnew() {
        for (int what = 0; what <= 1; what++) {
            CarpetEleven x = by("least 0;first 200;pull 0;", 3, 0);
            due.is("open", x.bestAt(0, 200, 0, what), 0);
            due.is("below what he says", x.bestAt(0, 199, 0, what), -1);
            x.word(0, 0);
            due.is("behind a word", x.bestAt(0, 200, 0, what), 0);
            x.agree(0);
            due.is("SOLD", x.bestAt(0, 200, 0, what), 0);
            due.is("SOLD, by a rule that does not do", x.bestAt(0, 199, 0, what), -1);
            x.anew(0);
            x.word(0, 0);
            x.word(0, 0);
            x.word(0, 0);
            due.is("GONE", x.told(0, 5), 2);
            due.is("GONE", x.bestAt(0, 200, 0, what), 0);
        }
    }

    // ---- WHOM to ask, ALL in turn

    private static void whom() {
        CarpetEleven x = new CarpetEleven();
        due.is("of none", x.whom(1999, 10), -1);
        x.set(2, 0, 1999);
        int[] costs = {300, 200, 200, 100, 100, 101};
        for (int cost : costs) {
            x.seller(3, 10 * cost);
        }
        due.is("of like ones the first", x.whom(1999, 0), 3);
        x.agree(3);
        due.is("who STANDS open", x.whom(1999, 0), 4);
        x.agree(4);
        due.is("the last", x.whom(1999, 0), 5);
        x.agree(5);
        due.is("of like ones the first", x.whom(1999, 0), 1);
        x.word(1, 0);
        x.word(1, 0);
        x.word(1, 0);
        due.is("one who is GONE isn't asked", x.whom(1999, 0), 2);
        x.set(2, 0, 479);
        due.is("480 is above LIMIT", x.whom(1999, 0), -1);
        x.set(2, 0, 480);
        due.is("480 is LIMIT", x.whom(1999, 0), 2);
        due.is("by this rule with none", x.whom(479, 9), -1);
        due.is("a 2000", x.whom(2000, 0), -2);
        due.is("a -1", x.whom(-1, 0), -2);
        due.is("p 11", x.whom(0, 11), -2);
        due.is("p -1", x.whom(0, -1), -2);
    }

    private static void allInTurn() {
        CarpetEleven x = new CarpetEleven();
        due.is("of none", x.allInTurn(1999, 10, 0), -1);
        due.is("no words", x.allInTurn(1999, 10, 1), 0);
        x.set(2, 0, 1999);
        // SLIPS of NUMBER 0 stay 3 CUPS; 280, 180, 180 they say.
        x.seller(3, 1000);
        x.seller(3, 500);
        x.seller(3, 500);
        due.is("the first number is a with each", x.allInTurn(180, 0, 0), 180);
        due.is("3 words to one, none to the next", x.allInTurn(180, 0, 1), 3);
        due.is("at the first one's", x.allInTurn(280, 0, 0), 280);
        due.is("no words", x.allInTurn(280, 0, 1), 0);
        due.is("179 sells to none", x.allInTurn(179, 0, 0), -1);
        due.is("3 words to each", x.allInTurn(179, 0, 1), 9);
        due.is("all the way", x.allInTurn(0, 10, 0), 280);
        due.is("behind one word", x.allInTurn(0, 10, 1), 1);
        // The bid that is taken is a word, too: an EAGER takes LEAST, 98 in this HOUR.
        CarpetEleven eager = new CarpetEleven();
        eager.set(1, 0, 8);
        eager.seller(5, 1000);
        due.is("the PRICE", eager.allInTurn(98, 0, 0), 98);
        due.is("one word", eager.allInTurn(98, 0, 1), 1);
        eager.word(0, 0);
        due.is("words from now on", eager.allInTurn(98, 0, 1), 1);
        eager.agree(0);
        due.is("one SOLD is left out", eager.allInTurn(98, 0, 0), -1);
        due.is("no words", eager.allInTurn(98, 0, 1), 0);
        x.word(0, 0);
        x.word(0, 0);
        x.word(0, 0);
        due.is("one GONE is left out", x.allInTurn(180, 0, 1), 0);
    }

    // ---- HIS COST, SLIPPED

    private static void costIs(CarpetEleven x, int many, int least, int greatest) {
        due.is("how many", x.hisCost(0, 0, 0), many);
        due.is("the least", x.hisCost(0, 0, 1), least);
        due.is("the greatest", x.hisCost(0, 0, 2), greatest);
    }

    private static void hisCostZeroTo999() {
        CarpetEleven x = by("least 0;first 1000+cost;pull 0;", 0, 9);
        int[] costs = {0, 1, 501, 998, 999};
        for (int cost : costs) {
            int said = 1000 + cost;
            int second = said - said / 4;
            Due.row(x, 0, 2, 0, second, 3, second - (second - 3) / 4);
            costIs(x, 1, cost, cost);
        }
        // COST -1 and 1000 are none: 999 and 2000 would be what they say first.
        Due.row(x, 0, 2, 0, 999 - 249);
        costIs(x, 1, 0, 0);
        Due.row(x, 0, 2, 0, 749);
        costIs(x, 0, -1, -1);
        Due.row(x, 0, 2, 0, 1500);
        costIs(x, 1, 999, 999);
        Due.row(x, 0, 2, 0, 1501);
        costIs(x, 0, -1, -1);
        x.sheet(0, 2, 0);
        costIs(x, 1000, 0, 999);
    }

    private static void hisCostFromTheBeginning() {
        CarpetEleven x = by("least 0;first 1000+cost;pull 0;", 0, 1009);
        // Both 1099 and 1100 would step to 850.
        Due.row(x, 0, 2, 100, 850);
        costIs(x, 2, 99, 100);
        Due.row(x, 0, 2, 100, 851);
        costIs(x, 1, 101, 101);
        x.word(0, 0);
        costIs(x, 1, 101, 101);
        x.agree(0);
        costIs(x, 1, 101, 101);
        due.is("his PRICE stays", x.told(0, 6), 825);
        for (int i = 0; i < 20; i++) {
            x.set(3, 0, 900 + i);
        }
        costIs(x, 1, 101, 101);
    }

    private static void hisCostStandsOpenBehindEach() {
        // 1000 is taken by the one who says 1000, and he who is SOLD still says 1000.
        CarpetEleven x = by("least 0;first 1000+cost;pull 0;", 3, 0);
        Due.row(x, 0, 2, 999, 1000);
        costIs(x, 1, 0, 0);
        Due.row(x, 0, 2, 1000, 1000);
        costIs(x, 0, -1, -1);
        Due.row(x, 0, 2, 1000, 1001);
        costIs(x, 1, 1, 1);
        // A SLIP of NUMBER 0 is GONE at CUP 3.
        Due.row(x, 0, 2, 0, 1005, 0, 1005);
        costIs(x, 1, 5, 5);
        Due.row(x, 0, 2, 0, 1005, 0, 1005, 0, 1005);
        costIs(x, 0, -1, -1);
        // A SLIP of NUMBER 9 stays 7 CUPS: six rows are fine.
        CarpetEleven nine = by("least 0;first 1000+cost;pull 0;", 3, 9);
        Due.row(nine, 0, 2, 0, 1005, 0, 1005, 0, 1005, 0, 1005, 0, 1005, 0, 1005);
        costIs(nine, 1, 5, 5);
        Due.row(nine, 0, 2, 0, 1005, 0, 1005, 0, 1005, 0, 1005, 0, 1005, 0, 1005, 0, 1005);
        costIs(nine, 0, -1, -1);
        Due.row(nine, 0, 2, 0, 1005, 0, 1005, 0, 1006);
        costIs(nine, 0, -1, -1);
        Due.row(nine, 0, 2, 0, 1006, 0, 1005);
        costIs(nine, 0, -1, -1);
    }

    private static void hisCostBids() {
        CarpetEleven x = by("least 0;first 1000+cost;pull 0;", 0, 9);
        Due.row(x, 0, 2, 0, 1103 - 275);
        costIs(x, 2, 103, 104);
        Due.row(x, 0, 2, 1, 1105 - 276);
        costIs(x, 2, 104, 105);
        // -1 and 2000 are no bids, so no COST makes him say something behind them.
        Due.row(x, 0, 2, -1, 1103 - 276);
        costIs(x, 0, -1, -1);
        Due.row(x, 0, 2, 2000, 1103);
        costIs(x, 0, -1, -1);
        CarpetEleven high = by("least 1999;first 1999;pull 0;", 3, 9);
        Due.row(high, 0, 2, 1998, 1999);
        costIs(high, 1000, 0, 999);
        Due.row(high, 0, 2, 1999, 1999);
        costIs(high, 0, -1, -1);
    }

    private static void hisCostSize() {
        CarpetEleven x = by("least 0;first 1000;pull 0;", 5, 9);
        for (int size = 0; size <= 40; size++) {
            x.sheet(0, 1, size);
            due.is("size " + size, x.hisCost(0, 0, 0), size % 2 == 1 ? -2 : size == 0 ? 1000 : 0);
        }
        // All 40 numbers: an EAGER of NUMBER 9 stays 28 CUPS, and says 1000 all the time.
        CarpetEleven y = by("least bid+1000;first 1000;pull 0;", 5, 9);
        y.sheet(0, 2, 40);
        for (int i = 0; i < 20; i++) {
            y.cell(0, 2 * i, i);
            y.cell(0, 2 * i + 1, 1000);
        }
        costIs(y, 1000, 0, 999);
        y.cell(0, 39, 999);
        costIs(y, 0, -1, -1);
    }

    private static void slipped() {
        for (int kind = 0; kind < 6; kind++) {
            CarpetEleven x = by("least 0;first 280;pull 99;", kind, 0);
            x.set(2, 0, 1999);
            due.is("a 279", x.slipped(0, 279, 9), -1);
            due.is("a 280", x.slipped(0, 280, 0), 280);
            due.is("a 1999", x.slipped(0, 1999, 0), 280);
            due.is("p 9", x.slipped(0, 0, 9), -1);
            due.is("p 10", x.slipped(0, 0, 10), 280);
            x.set(2, 0, 279);
            due.is("LIMIT 279", x.slipped(0, 1999, 10), -1);
            x.set(2, 0, 280);
            due.is("LIMIT 280", x.slipped(0, 1999, 10), 280);
            x.word(0, 0);
            due.is("all beginning anew", x.slipped(0, 280, 0), 280);
            x.agree(0);
            due.is("one SOLD, too", x.slipped(0, 280, 0), 280);
            due.is("his KIND stays", x.told(0, 0), kind);
        }
        // Each, a STIFF too, would step towards a first bid of 0, by 1 at least; a SLIP does not.
        CarpetEleven y = by("least 0;first 100+cost;pull 0;", 0, 0);
        for (int kind = 1; kind < 6; kind++) {
            y.seller(kind, 100 * kind);
        }
        for (int seller = 0; seller < 6; seller++) {
            due.is("each by his own COST", y.slipped(seller, 0, 10), 100 + 10 * seller);
            due.is("by rule, as he is", y.rule(seller, 0, 10, 1) == 100 + 10 * seller ? 1 : 0, seller == 3 ? 1 : 0);
        }
        due.is("a is 0 .. 1999", y.slipped(0, 2000, 0), -2);
        due.is("p is 0 .. 10", y.slipped(0, 0, 11), -2);
    }

    // ---- A MARKET

    private static void marketIs(CarpetEleven x, int a, int p, int sold, int prices, int missed) {
        due.is("SOLD", x.market(0, a, p, 0), sold);
        due.is("PRICES", x.market(0, a, p, 1), prices);
        due.is("missed", x.market(0, a, p, 2), missed);
    }

    private static void marketLimits() {
        CarpetEleven x = by("least 0;first 1999;pull 0;", 5, 9);
        int[][] bound = {{-1, 0}, {Integer.MIN_VALUE, 0}, {0, 0}, {1, 1}, {1998, 1998}, {1999, 1999},
            {2000, 1999}, {Integer.MAX_VALUE, 1999}};
        for (int[] b : bound) {
            Due.row(x, 0, 2, b[0]);
            marketIs(x, 1999, 0, 1, b[1], 0);
        }
        due.is("LIMIT stays", x.count(5), 250);
        x.set(2, 0, 0);
        Due.row(x, 0, 2, 77);
        marketIs(x, 1999, 0, 1, 77, 0);
        marketIs(x, 76, 0, 1, 76, 0);
        x.sheet(0, 0, 0);
        marketIs(x, 1999, 0, 0, 0, 0);
        CarpetEleven none = new CarpetEleven();
        Due.row(none, 0, 2, 5, 5);
        marketIs(none, 1999, 0, 0, 0, 0);
        CarpetEleven forty = by("least 0;first 1999;pull 0;", 5, 9);
        for (int i = 1; i < 6; i++) {
            forty.seller(5, 9);
        }
        forty.sheet(0, 2, 40);
        marketIs(forty, 1999, 0, 6, 0, 0);
        for (int i = 0; i < 40; i++) {
            forty.cell(0, i, 1999);
        }
        marketIs(forty, 1999, 0, 6, 6 * 1999, 0);
    }

    private static void marketGoesOn() {
        // Three SLIPS of NUMBER 0: each stays 3 CUPS, and a buyer whose bids stay below makes him go.
        CarpetEleven x = by("least 0;first 100+cost;pull 0;", 3, 0);
        x.seller(3, 100);
        x.seller(3, 200);
        Due.row(x, 0, 2, 99, 1999);
        marketIs(x, 1999, 0, 0, 0, 1);
        Due.row(x, 0, 2, 100, 100);
        marketIs(x, 1999, 0, 1, 100, 1);
        Due.row(x, 0, 2, 100, 110, 120, 130);
        marketIs(x, 1999, 0, 3, 330, 0);
        Due.row(x, 0, 2, 110, 110, 120);
        marketIs(x, 1999, 0, 3, 330, 0);
        Due.row(x, 0, 2, 120, 110, 100);
        marketIs(x, 1999, 0, 2, 210, 1);
        // Who stood open goes on with the CUPS and SAID that the buyer ahead left.
        CarpetEleven y = by("least 0;first 1000;pull 0;", 0, 9);
        Due.row(y, 0, 2, 400);
        marketIs(y, 0, 0, 0, 0, 1);
        CarpetEleven eager = by("least 500*(cups<3);first 1000;pull 0;", 5, 9);
        // The words 0 at CUPS 1 and 2 are not taken, and at CUP 3 LEAST is 0.
        Due.row(eager, 0, 2, 0);
        marketIs(eager, 0, 0, 1, 0, 0);
        eager.word(0, 0);
        eager.agree(0);
        marketIs(eager, 0, 0, 0, 0, 0);
    }

    private static void marketMissed() {
        // A SLIP says 100 and has LEAST 50: a buyer of 50 .. 99 has missed it, one of 49 has not.
        int[][] want = {{49, 0}, {50, 1}, {51, 1}, {99, 1}};
        for (int[] w : want) {
            CarpetEleven x = by("least 50;first 100;pull 0;", 3, 0);
            Due.row(x, 0, 2, w[0]);
            marketIs(x, 1999, 0, 0, 0, w[1]);
            Due.row(x, 0, 2, w[0], 99);
            marketIs(x, 1999, 0, 0, 0, w[1]);
        }
        CarpetEleven two = by("least 50+cost;first 100+cost;pull 0;", 3, 100);
        two.seller(3, 0);
        Due.row(two, 0, 2, 55);
        marketIs(two, 1999, 0, 0, 0, 1);
        two.agree(1);
        marketIs(two, 1999, 0, 0, 0, 0);
        Due.row(two, 0, 2, 59);
        marketIs(two, 1999, 0, 0, 0, 0);
        Due.row(two, 0, 2, 60);
        marketIs(two, 1999, 0, 0, 0, 1);
        two.agree(0);
        marketIs(two, 1999, 0, 0, 0, 0);
        // LEAST as they came is told by bid 0, SAID and CUPS: one who was asked before has CUPS.
        CarpetEleven y = by("least 60*cups+900*bid;first 100;pull 0;", 3, 0);
        Due.row(y, 0, 2, 30);
        marketIs(y, 1999, 0, 0, 0, 1);
        y.word(0, 0);
        marketIs(y, 1999, 0, 0, 0, 0);
        Due.row(y, 0, 2, 60);
        marketIs(y, 1999, 0, 0, 0, 1);
        CarpetEleven z = by("least said;first 100;pull 0;", 3, 0);
        Due.row(z, 0, 2, 99);
        marketIs(z, 1999, 0, 0, 0, 0);
        Due.row(z, 0, 2, 100);
        marketIs(z, 0, 0, 0, 0, 1);
        // One who gets it has missed nothing.
        marketIs(z, 1999, 0, 1, 100, 0);
    }

    // ---- JUDGED

    private static void judged() {
        CarpetEleven x = by("least 0;first 100;pull 0;", 3, 0);
        Due.row(x, 0, 2, 0, 0, 0);
        due.is("GONE by the last", x.judge(0, 0), -1);
        Due.row(x, 0, 2, 0, 0, 0, 0);
        due.is("GONE ahead of the last", x.judge(0, 0), 3);
        Due.row(x, 0, 2, 100);
        due.is("SOLD by the last", x.judge(0, 0), -1);
        Due.row(x, 0, 2, 100, 5);
        due.is("SOLD ahead of the last", x.judge(0, 0), 1);
        Due.row(x, 0, 2, 99, 100, 5, 5);
        due.is("the first of these", x.judge(0, 0), 2);
        x.word(0, 0);
        Due.row(x, 0, 2, 0, 0, 0);
        due.is("from now on", x.judge(0, 0), 2);
        x.agree(0);
        due.is("SOLD", x.judge(0, 0), 0);
        x.sheet(0, 2, 0);
        due.is("no bids", x.judge(0, 0), -1);
        CarpetEleven forty = by("least 1999;first 1999;pull 0;", 5, 9);
        forty.sheet(0, 2, 40);
        due.is("28 CUPS", forty.judge(0, 0), 28);
        due.is("CUPS stay", forty.told(0, 4), 0);
    }

    private static void judgedBids() {
        CarpetEleven x = by("least 1999;first 1999;pull 0;", 5, 9);
        int[][] want = {{-1, 0}, {0, -1}, {1, -1}, {1998, -1}, {1999, -1}, {2000, 0},
            {Integer.MIN_VALUE, 0}, {Integer.MAX_VALUE, 0}};
        for (int[] w : want) {
            Due.row(x, 0, 2, w[0]);
            due.is("a bid of " + w[0], x.judge(0, 0), w[1]);
        }
        Due.row(x, 0, 2, 0, 2000, -1);
        due.is("the first of two", x.judge(0, 0), 1);
        Due.row(x, 0, 2, 0, 0, -1, 2000);
        due.is("the first of two", x.judge(0, 0), 2);
        Due.row(x, 0, 2, 1999, -1);
        due.is("no bid, behind a SOLD", x.judge(0, 0), 1);
    }

    // ---- DRAWN, in how many

    private static int drawnBid(int seed, int cup) {
        long z = seed;
        for (int i = 0; i < cup; i++) {
            z = (int) (z * 1103515245L + 12345L);
        }
        return (int) (((z & 0xffffffffL) / 2048) % 400);
    }

    private static void drawnBids() {
        int[] seeds = {0, 1, -1, 2, 77777, Integer.MIN_VALUE, Integer.MAX_VALUE};
        due.is("the first of SEED 0", drawnBid(0, 1), 6);
        for (int seed : seeds) {
            CarpetEleven x = by(AT_HOUR, 5, 9);
            for (int cup = 1; cup <= 23; cup++) {
                x.set(1, 0, cup);
                x.set(3, 0, drawnBid(seed, cup));
                due.is("SEED " + seed + " at CUP " + cup, x.drawn(0, seed), 1);
                x.set(3, 0, drawnBid(seed, cup) + 1);
                due.is("SEED " + seed + " at CUP " + cup + ": no other", x.drawn(0, seed), 2);
            }
        }
        // 6 times 2048 less 1 and 399 are the greatest that are drawn.
        boolean top = false;
        for (int seed = 0; seed < 20000 && !top; seed++) {
            if (drawnBid(seed, 1) == 399) {
                CarpetEleven x = by(BELOW_COST, 5, 3999);
                due.is("399 isn't below 399", x.drawn(0, seed), 2);
                x.set(3, 0, 400);
                due.is("but below 400", x.drawn(0, seed), 1);
                top = true;
            }
        }
        due.holds("399 is drawn", top);
    }

    private static void drawnTillOtherwise() {
        // All STAY 28 CUPS at most, so that 30 words always end it.
        for (int kind = 0; kind < 6; kind++) {
            CarpetEleven x = by("least 1999;first 1999;pull 0;", kind, 9);
            due.is("GONE", x.drawn(0, 5), 2);
            due.is("open as he was", x.told(0, 5), 0);
        }
        CarpetEleven sold = by("least 0;first 0;pull 0;", 0, 9);
        due.is("SOLD", sold.drawn(0, 5), 1);
        sold.agree(0);
        due.is("SOLD ahead of all", sold.drawn(0, 5), 1);
        CarpetEleven gone = by("least 0;first 1999;pull 0;", 3, 0);
        gone.word(0, 0);
        gone.word(0, 0);
        due.is("from now on: GONE at the next CUP", gone.drawn(0, 5), 2);
        gone.word(0, 0);
        due.is("GONE ahead of all", gone.drawn(0, 5), 2);
    }

    private static void oddsOfSeeds() {
        int[] seeds = {0, -1, 1000, Integer.MAX_VALUE, Integer.MAX_VALUE - 3, Integer.MIN_VALUE};
        for (int seed : seeds) {
            CarpetEleven x = by(BELOW_COST, 5, 2009);
            for (int many = 1; many <= 30; many++) {
                int sold = 0;
                for (int i = 0; i < many; i++) {
                    sold += drawnBid(seed + i, 1) < 200 ? 1 : 0;
                }
                int common = 1;
                for (int d = 2; d <= many; d++) {
                    common = sold % d == 0 && many % d == 0 ? d : common;
                }
                due.is("above of " + many, x.odds(0, seed, many, 0), sold / common);
                due.is("below of " + many, x.odds(0, seed, many, 1), many / common);
            }
            due.is("of 0", x.odds(0, seed, 0, 0), CarpetEleven.NO);
            due.is("of 31", x.odds(0, seed, 31, 0), CarpetEleven.NO);
            due.is("of -1", x.odds(0, seed, -1, 1), CarpetEleven.NO);
        }
    }

    private static void oddsInLowestTerms() {
        CarpetEleven x = by(BELOW_COST, 5, 9);
        due.is("none of 30: above", x.odds(0, 0, 30, 0), 0);
        due.is("none of 30: below", x.odds(0, 0, 30, 1), 1);
        due.is("none of 1: below", x.odds(0, 0, 1, 1), 1);
        x.set(3, 0, 400);
        due.is("all of 30: above", x.odds(0, 0, 30, 0), 1);
        due.is("all of 30: below", x.odds(0, 0, 30, 1), 1);
        due.is("all of 1: above", x.odds(0, 0, 1, 0), 1);
        due.is("part 2", x.odds(0, 0, 1, 2), CarpetEleven.NO);
        due.is("part -1", x.odds(0, 0, 1, -1), CarpetEleven.NO);
        due.is("no SELLER", x.odds(1, 0, 1, 0), CarpetEleven.NO);
        due.is("NO", CarpetEleven.NO, -4611686018427387904L);
    }

    // ---- AN IMAGE

    private static void imageKeeps() {
        CarpetEleven x = new CarpetEleven();
        due.is("there is none", x.back(), -3);
        Due.text(x, "least 1;first 500;pull 0;");
        for (int i = 0; i < 3; i++) {
            x.seller(3, 1000);
        }
        x.word(0, 5);
        x.agree(1);
        x.word(2, 5);
        x.word(2, 5);
        x.word(2, 5);
        due.is("one is open", x.image(), 1);
        x.force(1);
        x.set(0, 0, 9);
        x.set(1, 0, 0);
        x.set(2, 0, 1999);
        for (int i = 0; i < 3; i++) {
            x.anew(i);
        }
        x.word(0, 500);
        due.is("one is open", x.back(), 1);
        int[][] told = {{280, 1, 0, -1}, {280, 0, 1, 280}, {280, 3, 2, -1}};
        for (int i = 0; i < 3; i++) {
            for (int what = 0; what < 4; what++) {
                due.is("SELLER " + i + ": " + (what + 3), x.told(i, what + 3), told[i][what]);
            }
        }
        due.is("SHOES", x.count(3), 4);
        due.is("THE HOUR", x.count(4), 12);
        due.is("LIMIT", x.count(5), 250);
        due.is("THE RULE", x.count(8), 0);
        due.is("it is in force", x.told(0, 7), 108);
        x.agree(0);
        due.is("back a second time", x.back(), 1);
        due.is("it is as it was", x.told(0, 6), -1);
        x.agree(0);
        due.is("another image", x.image(), 0);
        x.anew(0);
        due.is("back to that one", x.back(), 0);
        due.is("SOLD", x.told(0, 6), 280);
    }

    private static void imageKeepsWhatWasSet() {
        CarpetEleven x = new CarpetEleven();
        Due.text(x, "least 1;first 500;pull 0;");
        Due.text(x, "least 2;first 600;pull 0;");
        x.seller(0, 1003);
        x.set(0, 0, 9);
        x.set(1, 0, 23);
        x.set(2, 0, 1999);
        x.force(2);
        due.is("image", x.image(), 1);
        due.is("an image changes nothing", x.count(3) + x.count(4) + x.count(5) + x.count(8), 9 + 23 + 1999 + 2);
        x.set(0, 0, 0);
        x.set(1, 0, 0);
        x.set(2, 0, 0);
        x.force(1);
        due.is("back", x.back(), 1);
        due.is("SHOES", x.count(3), 9);
        due.is("THE HOUR", x.count(4), 23);
        due.is("LIMIT", x.count(5), 1999);
        due.is("THE RULE", x.count(8), 2);
        due.is("it is in force", x.anew(0), 600);
    }

    private static void imageKeepsNotMore() {
        CarpetEleven x = new CarpetEleven();
        x.seller(0, 1003);
        Due.row(x, 0, 2, 1);
        due.is("image", x.image(), 1);
        due.is("a later COST", x.set(3, 0, 50), 100);
        due.is("one who came since", x.seller(3, 700), 1);
        x.word(1, 0);
        Due.text(x, "least 7;first 500;pull 0;");
        x.feed(32);
        Due.row(x, 0, 2, 2000, 5);
        x.sheet(1, 0, 3);
        due.is("back", x.back(), 2);
        due.is("COST stays", x.told(0, 1), 50);
        due.is("what he SAID is as it was", x.told(0, 3), 280);
        due.is("LEAST is by COST", x.told(0, 7), 58);
        due.is("who came since stays", x.count(0), 2);
        due.is("with his CUPS", x.told(1, 4), 1);
        due.is("and what he SAID", x.told(1, 3), 220);
        due.is("TEXTS stay", x.count(6), 2);
        due.is("THE TAPE stays", x.count(7), 1);
        due.is("SHEETS stay", x.judge(0, 0), 0);
        due.is("SHEETS stay", x.cell(1, 2, 5), 1);
        due.is("SHEETS stay", x.cell(0, 1, 5), 1);
        // SOLD or GONE since, he stays that, too.
        x.agree(1);
        due.is("one is open", x.back(), 1);
        due.is("his PRICE", x.told(1, 6), 220);
    }

    private static void imageOfNone() {
        CarpetEleven x = new CarpetEleven();
        due.is("none is open", x.image(), 0);
        due.is("back", x.back(), 0);
        for (int i = 0; i < 6; i++) {
            x.seller(0, 0);
        }
        x.set(0, 0, 9);
        due.is("six came since", x.back(), 6);
        due.is("SHOES", x.count(3), 4);
        due.is("an image of six", x.image(), 6);
        x.agree(5);
        due.is("five are open", x.count(1), 5);
        due.is("back to six", x.back(), 6);
    }

    // ---- how many

    private static void counts() {
        CarpetEleven x = new CarpetEleven();
        for (int i = 0; i <= 6; i++) {
            due.is("SELLERS", x.count(0), i);
            due.is("open ones", x.count(1), i);
            x.seller(3, 0);
        }
        for (int i = 0; i < 6; i++) {
            due.is("SOLD ones", x.count(2), i);
            due.is("open ones", x.count(1), 6 - i);
            x.agree(i);
        }
        due.is("all are SOLD", x.count(2), 6);
        x.anew(0);
        x.word(0, 0);
        x.word(0, 0);
        x.word(0, 0);
        due.is("GONE is not open", x.count(1), 0);
        due.is("GONE is not SOLD", x.count(2), 5);
        due.is("count(9)", x.count(9), -2);
        due.is("count(-1)", x.count(-1), -2);
        due.is("TEXT 0 alone", x.count(6), 1);
        due.is("THE TAPE is empty", x.count(7), 0);
        due.is("TEXT 0 is THE RULE", x.count(8), 0);
    }
}
