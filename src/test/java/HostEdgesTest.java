/**
 * What the document says of SHEETS, of SELLERS by a SHEET and of KINDS, sentence by sentence: each
 * that names a boundary has a test of its own.
 */
public final class HostEdgesTest {
    private static final Due due = new Due("HostEdgesTest");
    private static final int MIN = Integer.MIN_VALUE, MAX = Integer.MAX_VALUE;

    public static void main(String[] args) {
        sheetsZeroToThree();
        missingAtFirst();
        sortsAndSizes();
        allZero();
        missingAgain();
        cellsOfEachSize();
        bytesHoldEightBits();
        shortsHoldSixteenBits();
        intsHoldAll();
        copiesOfEachSize();
        copiesAsTheyWere();
        copiesBetween();
        copiesOfNone();
        sellersTwoByTwo();
        sellersZeroToSix();
        othersAreLeftOut();
        whatStoodAheadCame();
        sellersOfASort();
        takenForOneUnder();
        due.finish();
    }

    /** An object whose SELLER 0 sells at whatever is bid. */
    private static CarpetEleven reader() {
        CarpetEleven x = new CarpetEleven();
        Due.text(x, Probe.READER);
        x.force(1);
        x.seller(5, 9);
        return x;
    }

    /** Item 0 of a SHEET, by the bounds of a LIMIT: 0 .. 1999. */
    private static int item(CarpetEleven x, int sheet) {
        return x.market(sheet, 1999, 0, 1);
    }

    /** The items of a SHEET from i on are as told; those ahead are lost by it. */
    private static void items(CarpetEleven x, int sheet, int... want) {
        due.is("size", Probe.sizeOf(x, sheet), want.length);
        for (int i = 0; i < want.length; i++) {
            x.copy(sheet, i, sheet, 0, 1);
            due.is("item " + i, item(x, sheet), want[i]);
        }
    }

    // ---- SHEETS

    private static void sheetsZeroToThree() {
        CarpetEleven x = new CarpetEleven();
        for (int sheet = 0; sheet < 4; sheet++) {
            due.is("SHEET " + sheet, x.sheet(sheet, 0, 1), 1);
            due.is("a cell of it", x.cell(sheet, 0, 1), 1);
        }
        for (int sheet : new int[] {-1, 4, MIN, MAX}) {
            due.is("SHEET " + sheet, x.sheet(sheet, 0, 1), -2);
            due.is("a cell of it", x.cell(sheet, 0, 1), -2);
            due.is("a copy of it", x.copy(sheet, 0, 0, 0, 1), -2);
            due.is("a copy to it", x.copy(0, 0, sheet, 0, 1), -2);
            due.is("SELLERS by it", x.sellers(sheet, 0, 0, 0), -2);
        }
        CarpetEleven y = reader();
        for (int sheet = 0; sheet < 4; sheet++) {
            Due.row(y, sheet, 2, 100 + sheet);
        }
        for (int sheet = 0; sheet < 4; sheet++) {
            due.is("each has its own items", item(y, sheet), 100 + sheet);
        }
    }

    private static void missingAtFirst() {
        CarpetEleven x = new CarpetEleven();
        x.seller(0, 0);
        for (int sheet = 0; sheet < 4; sheet++) {
            due.is("cell", x.cell(sheet, 0, 0), -11);
            due.is("copy", x.copy(sheet, 0, sheet, 0, 0), -11);
            due.is("sellers", x.sellers(sheet, 0, 0, 0), -11);
            due.is("hisCost", x.hisCost(0, sheet, 0), -11);
            due.is("market", x.market(sheet, 0, 0, 0), -11);
            due.is("judge", x.judge(0, sheet), -11);
        }
    }

    private static void sortsAndSizes() {
        for (int sort = 0; sort < 3; sort++) {
            CarpetEleven x = new CarpetEleven();
            for (int n = 0; n <= 40; n++) {
                due.is("a row of " + n, x.sheet(1, sort, n), 1);
                due.is("its size", Probe.sizeOf(x, 1), n);
            }
            due.is("a row of 41", x.sheet(1, sort, 41), -2);
            due.is("a row of -1", x.sheet(1, sort, -1), -14);
            due.is("it stays a row of 40", Probe.sizeOf(x, 1), 40);
            for (int other = 0; other < 3; other++) {
                due.is("its sort", x.sellers(1, other, 0, 0), other == sort ? 0 : -13);
            }
        }
        CarpetEleven x = new CarpetEleven();
        due.is("sort 3", x.sheet(0, 3, 5), -2);
        due.is("sort -2", x.sheet(0, -2, 5), -2);
        due.is("sort 3, a size below 0", x.sheet(0, 3, -1), -2);
        due.is("no SHEET, a size below 0", x.sheet(4, 0, -1), -2);
        due.is("it is missing", x.cell(0, 0, 0), -11);
    }

    private static void allZero() {
        CarpetEleven x = reader();
        for (int sort = 0; sort < 3; sort++) {
            Due.row(x, 0, sort, 7, 8, 9);
            x.sheet(0, sort, 3);
            items(x, 0, 0, 0, 0);
            Due.row(x, 0, 2 - sort, 7, 8, 9);
            x.sheet(0, sort, 5);
            items(x, 0, 0, 0, 0, 0, 0);
        }
    }

    private static void missingAgain() {
        CarpetEleven x = reader();
        for (int n : new int[] {0, 5, 41, -1, MIN, MAX}) {
            Due.row(x, 0, 1, 7, 8);
            due.is("n " + n + " does not matter", x.sheet(0, -1, n), 1);
            due.is("missing", x.cell(0, 0, 0), -11);
            due.is("missing again", x.sheet(0, -1, n), 1);
        }
        due.is("but the SHEET does", x.sheet(4, -1, 0), -2);
        due.is("a row again", x.sheet(0, 1, 2), 1);
        items(x, 0, 0, 0);
    }

    // ---- cells

    private static void cellsOfEachSize() {
        for (int n : new int[] {0, 1, 2, 39, 40}) {
            CarpetEleven x = new CarpetEleven();
            x.sheet(2, 0, n);
            for (int i = -1; i <= 41; i++) {
                due.is("item " + i + " of " + n, x.cell(2, i, 5), i >= 0 && i < n ? 1 : -12);
            }
            due.is("item MIN", x.cell(2, MIN, 5), -12);
            due.is("item MAX", x.cell(2, MAX, 5), -12);
        }
        CarpetEleven x = reader();
        x.sheet(0, 2, 4);
        x.cell(0, 1, 11);
        x.cell(0, 2, 22);
        x.cell(0, 1, 12);
        items(x, 0, 0, 12, 22, 0);
    }

    private static void holds(CarpetEleven x, int sort, int v, int want) {
        Due.row(x, 0, sort, v);
        due.is("a cell of sort " + sort + ": " + v, item(x, 0), Math.max(0, Math.min(1999, want)));
        due.is("as a bid", x.judge(0, 0), want >= 0 && want <= 1999 ? -1 : 0);
    }

    private static void bytesHoldEightBits() {
        CarpetEleven x = reader();
        int[][] want = {{0, 0}, {1, 1}, {127, 127}, {128, -128}, {255, -1}, {256, 0}, {257, 1}, {-1, -1},
            {-128, -128}, {-129, 127}, {-256, 0}, {MIN, 0}, {MAX, -1}, {1999, 1999 - 2048}, {1000, 1000 - 1024}};
        for (int[] w : want) {
            holds(x, 0, w[0], w[1]);
        }
    }

    private static void shortsHoldSixteenBits() {
        CarpetEleven x = reader();
        int[][] want = {{0, 0}, {255, 255}, {256, 256}, {1999, 1999}, {2000, 2000}, {32767, 32767},
            {32768, -32768}, {65535, -1}, {65536, 0}, {65536 + 1999, 1999}, {-1, -1}, {-32768, -32768},
            {-32769, 32767}, {-65536, 0}, {-65536 + 5, 5}, {MIN, 0}, {MAX, -1}};
        for (int[] w : want) {
            holds(x, 1, w[0], w[1]);
        }
    }

    private static void intsHoldAll() {
        CarpetEleven x = reader();
        for (int v : new int[] {0, 1, 255, 1999, 2000, 65535, 65536, 65536 + 5, -1, -65536 + 5, MIN, MIN + 5, MAX}) {
            holds(x, 2, v, v);
        }
    }

    // ---- copies

    private static void copiesOfEachSize() {
        for (int sort = 0; sort < 3; sort++) {
            CarpetEleven x = new CarpetEleven();
            x.sheet(0, sort, 4);
            x.sheet(1, sort, 3);
            for (int i = -1; i <= 5; i++) {
                for (int j = -1; j <= 4; j++) {
                    for (int n = -1; n <= 4; n++) {
                        boolean in = i >= 0 && j >= 0 && n >= 0 && i + n <= 4 && j + n <= 3;
                        due.is("copy(0, " + i + ", 1, " + j + ", " + n + ")", x.copy(0, i, 1, j, n), in ? n : -12);
                    }
                }
            }
        }
        CarpetEleven x = new CarpetEleven();
        x.sheet(0, 2, 40);
        x.sheet(1, 2, 40);
        due.is("all 40", x.copy(0, 0, 1, 0, 40), 40);
        due.is("41", x.copy(0, 0, 1, 0, 41), -12);
        due.is("40 from 1 on", x.copy(0, 1, 1, 0, 40), -12);
        due.is("i and n wrap", x.copy(0, MAX, 1, 0, MAX), -12);
        due.is("j and n wrap", x.copy(0, 0, 1, MAX, 2), -12);
        due.is("n MIN", x.copy(0, 0, 1, 0, MIN), -12);
        due.is("n MIN from below", x.copy(0, MIN, 1, MIN, MIN), -12);
    }

    private static void copiesAsTheyWere() {
        CarpetEleven x = reader();
        Due.row(x, 0, 2, 1, 2, 3, 4, 5);
        due.is("one to the right", x.copy(0, 0, 0, 1, 4), 4);
        items(x, 0, 1, 1, 2, 3, 4);
        Due.row(x, 0, 2, 1, 2, 3, 4, 5);
        due.is("one to the left", x.copy(0, 1, 0, 0, 4), 4);
        items(x, 0, 2, 3, 4, 5, 5);
        Due.row(x, 0, 1, 1, 2, 3, 4, 5);
        due.is("two to the right", x.copy(0, 1, 0, 3, 2), 2);
        items(x, 0, 1, 2, 3, 2, 3);
        Due.row(x, 0, 0, 1, 2, 3, 4, 5);
        due.is("in its place", x.copy(0, 0, 0, 0, 5), 5);
        items(x, 0, 1, 2, 3, 4, 5);
    }

    private static void copiesBetween() {
        for (int sort = 0; sort < 3; sort++) {
            CarpetEleven x = reader();
            Due.row(x, 0, sort, 1, 2, 3);
            Due.row(x, 3, sort, 10, 20, 30, 40);
            due.is("two", x.copy(0, 1, 3, 1, 2), 2);
            items(x, 3, 10, 2, 3, 40);
            items(x, 0, 1, 2, 3);
            x.sheet(1, (sort + 1) % 3, 4);
            due.is("of unlike sorts", x.copy(0, 0, 1, 0, 1), -13);
            due.is("of unlike sorts, outside", x.copy(0, 9, 1, 0, 1), -13);
            due.is("of unlike sorts, none", x.copy(0, 0, 1, 0, 0), -13);
            due.is("one is missing", x.copy(0, 0, 2, 0, 1), -11);
            due.is("one is missing", x.copy(2, 0, 0, 0, 1), -11);
            due.is("one is missing, outside", x.copy(2, 9, 0, -1, -1), -11);
        }
    }

    private static void copiesOfNone() {
        CarpetEleven x = new CarpetEleven();
        x.sheet(0, 0, 0);
        x.sheet(1, 0, 2);
        due.is("of an empty one", x.copy(0, 0, 1, 0, 0), 0);
        due.is("to an empty one", x.copy(1, 0, 0, 0, 0), 0);
        due.is("at both ends", x.copy(0, 0, 1, 2, 0), 0);
        due.is("behind an end", x.copy(0, 1, 1, 0, 0), -12);
        due.is("behind an end", x.copy(0, 0, 1, 3, 0), -12);
        due.is("one of an empty one", x.copy(0, 0, 1, 0, 1), -12);
        due.is("one to an empty one", x.copy(1, 0, 0, 0, 1), -12);
    }

    // ---- SELLERS by a SHEET

    private static void isSeller(CarpetEleven x, int seller, int kind, int cost, int number) {
        due.is("KIND", x.told(seller, 0), kind);
        due.is("COST", x.told(seller, 1), cost);
        due.is("NUMBER", x.told(seller, 2), number);
    }

    private static void sellersTwoByTwo() {
        CarpetEleven x = new CarpetEleven();
        Due.row(x, 0, 2, 9, 5, 9999, 0, 0, 3, 456, 1);
        due.is("three from 1 on", x.sellers(0, 2, 1, 3), 3);
        isSeller(x, 0, 5, 999, 9);
        isSeller(x, 1, 0, 0, 0);
        isSeller(x, 2, 3, 45, 6);
        due.is("first by THE RULE", x.told(2, 3), 170);
        due.is("from 0 on: 9 is no KIND", x.sellers(0, 2, 0, 1), 0);
        due.is("from 6 on: the last two", x.sellers(0, 2, 6, 1), 0);
        due.is("from 7 on: half of two", x.sellers(0, 2, 7, 1), -12);
        due.is("three", x.count(0), 3);
    }

    private static void sellersZeroToSix() {
        for (int n = -1; n <= 7; n++) {
            CarpetEleven x = new CarpetEleven();
            x.sheet(0, 0, 12);
            due.is("n " + n, x.sellers(0, 0, 0, n), n < 0 || n > 6 ? -2 : n);
            due.is("so many came", x.count(0), n < 0 || n > 6 ? 0 : n);
        }
        CarpetEleven x = new CarpetEleven();
        x.sheet(0, 0, 11);
        due.is("eleven numbers are no six", x.sellers(0, 0, 0, 6), -12);
        due.is("five came", x.count(0), 5);
        due.is("one more", x.sellers(0, 0, 9, 1), 1);
        due.is("it is FULL: all are left out", x.sellers(0, 0, 0, 5), 0);
        due.is("six", x.count(0), 6);
    }

    private static void othersAreLeftOut() {
        CarpetEleven x = new CarpetEleven();
        Due.row(x, 0, 2, -1, 0, 6, 0, 0, -1, 0, 10000, 0, 9999, 5, 0);
        due.is("two of six", x.sellers(0, 2, 0, 6), 2);
        isSeller(x, 0, 0, 999, 9);
        isSeller(x, 1, 5, 0, 0);
        Due.row(x, 0, 2, MIN, 0, MAX, 0, 0, MIN, 0, MAX, 1, 11, 2, 22);
        due.is("two of six", x.sellers(0, 2, 0, 6), 2);
        isSeller(x, 2, 1, 1, 1);
        isSeller(x, 3, 2, 2, 2);
        x.seller(0, 0);
        due.is("one more has room", x.sellers(0, 2, 8, 2), 1);
        isSeller(x, 5, 1, 1, 1);
    }

    private static void whatStoodAheadCame() {
        CarpetEleven x = new CarpetEleven();
        Due.row(x, 0, 1, 1, 10, 2, 20, 3);
        due.is("the third has no what", x.sellers(0, 1, 0, 3), -12);
        due.is("two came", x.count(0), 2);
        due.is("none stands at 5", x.sellers(0, 1, 5, 1), -12);
        due.is("none stands at -1", x.sellers(0, 1, -1, 1), -12);
        due.is("none stands at -2", x.sellers(0, 1, -2, 6), -12);
        due.is("none stands at MAX", x.sellers(0, 1, MAX, 6), -12);
        due.is("none stands at MIN", x.sellers(0, 1, MIN, 6), -12);
        due.is("two", x.count(0), 2);
        due.is("one ahead", x.sellers(0, 1, 2, 2), -12);
        due.is("it came", x.count(0), 3);
        isSeller(x, 2, 2, 2, 0);
        CarpetEleven y = new CarpetEleven();
        y.sheet(0, 2, 0);
        due.is("an empty one", y.sellers(0, 2, 0, 1), -12);
        due.is("none of an empty one", y.sellers(0, 2, 0, 0), 0);
    }

    private static void sellersOfASort() {
        CarpetEleven x = new CarpetEleven();
        for (int sort = 0; sort < 3; sort++) {
            x.sheet(sort, sort, 2);
        }
        for (int sheet = 0; sheet < 3; sheet++) {
            for (int sort = -1; sort <= 3; sort++) {
                int want = sort < 0 || sort > 2 ? -2 : sort == sheet ? 0 : -13;
                due.is("SHEET " + sheet + " for sort " + sort, x.sellers(sheet, sort, 0, 0), want);
                due.is("outside, too", x.sellers(sheet, sort, 9, 1), want == 0 ? -12 : want);
                due.is("a missing one", x.sellers(3, sort, 9, 1), want == -2 ? -2 : -11);
                due.is("n 7", x.sellers(sheet, sort, 0, 7), -2);
            }
        }
        due.is("none came", x.count(0), 0);
        // Bytes can't hold more than 127: what is above is below 0, so he is left out.
        Due.row(x, 0, 0, 0, 127, 0, 128);
        due.is("by bytes", x.sellers(0, 0, 0, 2), 1);
        isSeller(x, 0, 0, 12, 7);
        Due.row(x, 0, 1, 0, 9999, 0, 65536 + 4321);
        due.is("by shorts", x.sellers(0, 1, 0, 2), 2);
        isSeller(x, 1, 0, 999, 9);
        isSeller(x, 2, 0, 432, 1);
    }

    private static void takenForOneUnder() {
        int[][] under = {{0}, {0, 1}, {0, 2}, {0, 2, 3}, {0, 1, 4}, {0, 1, 5}};
        for (int kind = 0; kind < 6; kind++) {
            for (int number = 0; number <= 9; number += 9) {
                CarpetEleven x = new CarpetEleven();
                x.seller(kind, 550 + number);
                for (int k = -1; k <= 6; k++) {
                    boolean is = false;
                    for (int up : under[kind]) {
                        is |= up == k;
                    }
                    int want = k < 0 || k > 5 ? -2 : is ? number : -13;
                    due.is("KIND " + kind + " for " + k, x.taken(0, k), want);
                    due.is("no SELLER for " + k, x.taken(1, k), k < 0 || k > 5 ? -2 : -11);
                    due.is("no SELLER -1 for " + k, x.taken(-1, k), k < 0 || k > 5 ? -2 : -11);
                }
                x.agree(0);
                due.is("SOLD, too", x.taken(0, kind), number);
            }
        }
    }
}
