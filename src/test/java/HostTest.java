/** Promises 25 to 29: sheet, cell, copy, sellers, taken. */
public final class HostTest {
    private static final Due due = new Due("HostTest");
    private static final int MIN = Integer.MIN_VALUE, MAX = Integer.MAX_VALUE;

    public static void main(String[] args) {
        sheet();
        cell();
        copy();
        copyInPlace();
        sellers();
        sellersFull();
        taken();
        due.finish();
    }

    private static int sortOf(CarpetEleven x, int sheet) {
        for (int sort = 0; sort < 3; sort++) {
            if (x.sellers(sheet, sort, 0, 0) == 0) {
                return sort;
            }
        }
        return -1;
    }

    private static void sheet() {
        CarpetEleven x = new CarpetEleven();
        due.is("sheet(-1, 0, 1)", x.sheet(-1, 0, 1), -2);
        due.is("sheet(4, 0, 1)", x.sheet(4, 0, 1), -2);
        due.is("sheet(0, -2, 1)", x.sheet(0, -2, 1), -2);
        due.is("sheet(0, 3, 1)", x.sheet(0, 3, 1), -2);
        due.is("sheet(0, 0, 41)", x.sheet(0, 0, 41), -2);
        due.is("sheet(0, 0, MAX)", x.sheet(0, 0, MAX), -2);
        due.is("sheet(0, 0, -1)", x.sheet(0, 0, -1), -14);
        due.is("sheet(0, 0, MIN)", x.sheet(0, 0, MIN), -14);
        due.is("BAD goes ahead of -14", x.sheet(0, 3, -1), -2);
        due.is("still missing", x.cell(0, 0, 0), -11);
        for (int sort = 0; sort < 3; sort++) {
            due.is("sheet of 40", x.sheet(3, sort, 40), 1);
            due.is("its sort", sortOf(x, 3), sort);
            due.is("its last item", x.cell(3, 39, 5), 1);
            due.is("no item 40", x.cell(3, 40, 5), -12);
        }
        due.is("a refusal changes nothing", x.sheet(3, 0, 41), -2);
        due.is("its last item", x.cell(3, 39, 5), 1);
        due.is("sheet of 0", x.sheet(1, 1, 0), 1);
        due.is("it is no missing one", x.cell(1, 0, 0), -12);
        due.is("missing", x.sheet(1, -1, MIN), 1);
        due.is("missing", x.sheet(2, -1, MAX), 1);
        due.is("missing", x.cell(1, 0, 0), -11);
        // A sheet made again is all 0: LIMITS of 0 buy nothing, those of before did.
        x.seller(0, 0);
        Due.row(x, 0, 2, 1999, 1999);
        due.is("a market", x.market(0, 1999, 0, 0), 1);
        x.sheet(0, 2, 2);
        due.is("all 0", x.market(0, 1999, 0, 0), 0);
        Due.row(x, 0, 2, 1999, 1999);
        x.sheet(0, -1, 0);
        x.sheet(0, 2, 2);
        due.is("all 0, behind a missing one too", x.market(0, 1999, 0, 0), 0);
        due.is("0, 0 is a SELLER", x.sellers(0, 2, 0, 1), 1);
        due.is("KIND 0", x.told(1, 0), 0);
        due.is("NUMBER 0", x.told(1, 2), 0);
    }

    private static void cell() {
        CarpetEleven x = new CarpetEleven();
        due.is("cell(-1, 0, 0)", x.cell(-1, 0, 0), -2);
        due.is("cell(4, 0, 0)", x.cell(4, 0, 0), -2);
        due.is("missing", x.cell(0, 99, 0), -11);
        x.sheet(0, 0, 3);
        due.is("outside", x.cell(0, -1, 0), -12);
        due.is("outside", x.cell(0, 3, 0), -12);
        due.is("outside", x.cell(0, MIN, 0), -12);
        due.is("outside", x.cell(0, MAX, 0), -12);
        // A number is a bid if it is 0 .. 1999, so judge tells what a cell keeps.
        x.seller(0, 9999);
        int[][] kept = {{0, 127, -1}, {0, 128, 0}, {0, 255, 0}, {0, 256, -1}, {0, -1, 0},
            {0, MIN, -1}, {0, 0x7f80, 0}, {1, 1999, -1}, {1, 2000, 0}, {1, 32768, 0},
            {1, 65536, -1}, {1, 65536 + 1999, -1}, {1, 65535, 0}, {1, MIN, -1},
            {2, 65536, 0}, {2, 1999, -1}, {2, MIN, 0}, {2, MAX, 0}};
        for (int[] k : kept) {
            Due.row(x, 1, k[0], k[1]);
            due.is("cell of sort " + k[0] + ": " + k[1], x.judge(0, 1), k[2]);
        }
        // And what is kept below 0 is a LIMIT of 0, what is above a LIMIT of 1999.
        CarpetEleven y = new CarpetEleven();
        y.seller(3, 9);
        Due.row(y, 0, 0, 127);
        due.is("127 is enough for 80", y.market(0, 1999, 0, 1), 80);
        Due.row(y, 0, 0, 128);
        due.is("128 is -128 as a byte", y.market(0, 1999, 0, 1), 0);
        Due.row(y, 0, 1, 32767);
        due.is("32767 is 1999", y.market(0, 1999, 0, 1), 80);
        Due.row(y, 0, 1, 32768);
        due.is("32768 is -32768 as a short", y.market(0, 1999, 0, 1), 0);
    }

    private static void copy() {
        CarpetEleven x = new CarpetEleven();
        due.is("no SHEET", x.copy(-1, 0, 0, 0, 0), -2);
        due.is("no SHEET", x.copy(4, 0, 0, 0, 0), -2);
        due.is("no SHEET", x.copy(0, 0, -1, 0, 0), -2);
        due.is("no SHEET", x.copy(0, 0, 4, 0, 0), -2);
        due.is("both missing", x.copy(0, 0, 1, 0, 0), -11);
        x.sheet(0, 1, 5);
        due.is("one missing", x.copy(0, 0, 1, 0, 0), -11);
        due.is("one missing", x.copy(1, 0, 0, 0, 0), -11);
        x.sheet(1, 2, 5);
        due.is("unlike", x.copy(0, 0, 1, 0, 0), -13);
        due.is("unlike goes ahead of outside", x.copy(0, -1, 1, 9, -1), -13);
        x.sheet(1, 1, 3);
        int[][] outside = {{-1, 0, 1}, {0, -1, 1}, {0, 0, -1}, {0, 0, 4}, {5, 0, 1}, {0, 3, 1},
            {6, 0, 0}, {0, 4, 0}, {3, 0, 3}, {0, 1, 3}, {0, 0, MAX}, {MAX, 0, 1}, {0, MAX, 1},
            {MAX, MAX, MAX}, {0, 0, MIN}, {MIN, 0, 1}, {1, 1, MIN}, {MIN, MIN, MIN}};
        for (int[] o : outside) {
            due.is("outside", x.copy(0, o[0], 1, o[1], o[2]), -12);
        }
        due.is("nothing, at the ends", x.copy(0, 5, 1, 3, 0), 0);
        due.is("all of three", x.copy(0, 2, 1, 0, 3), 3);
        // What came there: 5, 2000, 7 is judged at item 1.
        Due.row(x, 0, 1, 1, 2, 5, 2000, 7);
        due.is("copied", x.copy(0, 2, 1, 0, 3), 3);
        x.seller(0, 9999);
        due.is("judged", x.judge(0, 1), 1);
        due.is("one more", x.copy(0, 0, 1, 1, 1), 1);
        due.is("judged", x.judge(0, 1), -1);
    }

    private static void copyInPlace() {
        // 0 2000 0 0 0 0, moved by one to the right: 2000 stands at 2 alone, not all along.
        CarpetEleven x = new CarpetEleven();
        x.seller(0, 9999);
        Due.row(x, 0, 1, 0, 2000, 1, 1, 1, 1);
        due.is("to the right", x.copy(0, 0, 0, 1, 5), 5);
        due.is("judged", x.judge(0, 0), 2);
        x.cell(0, 2, 0);
        due.is("nothing else", x.judge(0, 0), -1);
        Due.row(x, 0, 1, 1, 1, 1, 1, 2000, 0);
        due.is("to the left", x.copy(0, 1, 0, 0, 5), 5);
        due.is("judged", x.judge(0, 0), 3);
        x.cell(0, 3, 0);
        due.is("nothing else", x.judge(0, 0), -1);
    }

    private static void sellers() {
        CarpetEleven x = new CarpetEleven();
        due.is("no SHEET", x.sellers(-1, 0, 0, 0), -2);
        due.is("no SHEET", x.sellers(4, 0, 0, 0), -2);
        due.is("no sort", x.sellers(0, -1, 0, 0), -2);
        due.is("no sort", x.sellers(0, 3, 0, 0), -2);
        due.is("no n", x.sellers(0, 0, 0, -1), -2);
        due.is("no n", x.sellers(0, 0, 0, 7), -2);
        due.is("missing", x.sellers(0, 0, 0, 1), -11);
        Due.row(x, 0, 2, 5, 1234, 7, 7, 1, 9999, 2);
        due.is("unlike", x.sellers(0, 0, 0, 1), -13);
        due.is("unlike", x.sellers(0, 1, -1, 1), -13);
        due.is("BAD goes ahead", x.sellers(0, 1, 0, 7), -2);
        due.is("from -1", x.sellers(0, 2, -1, 1), -12);
        due.is("from MIN", x.sellers(0, 2, MIN, 6), -12);
        due.is("from MAX", x.sellers(0, 2, MAX, 6), -12);
        due.is("from 7", x.sellers(0, 2, 7, 1), -12);
        due.is("half a pair", x.sellers(0, 2, 6, 1), -12);
        due.is("none came", x.count(0), 0);
        due.is("none asked", x.sellers(0, 2, 0, 0), 0);
        due.is("three, one left out", x.sellers(0, 2, 0, 3), 2);
        due.is("KIND", x.told(0, 0), 5);
        due.is("COST", x.told(0, 1), 123);
        due.is("NUMBER", x.told(0, 2), 4);
        due.is("KIND", x.told(1, 0), 1);
        due.is("COST", x.told(1, 1), 999);
        due.is("SAID", x.told(1, 3), 1999);
        due.is("what stood ahead came", x.sellers(0, 2, 0, 4), -12);
        due.is("it came", x.count(0), 4);
    }

    private static void sellersFull() {
        CarpetEleven x = new CarpetEleven();
        Due.row(x, 0, 0, 0, 1, 1, 2, 2, 3, 3, 4, 4, 5, 5, 6);
        due.is("six", x.sellers(0, 0, 0, 6), 6);
        due.is("FULL: all are left out", x.sellers(0, 0, 0, 6), 0);
        due.is("FULL: a place outside still is", x.sellers(0, 0, 2, 6), -12);
        due.is("six", x.count(0), 6);
    }

    private static void taken() {
        CarpetEleven x = new CarpetEleven();
        for (int kind = 0; kind < 6; kind++) {
            x.seller(kind, 10 + kind);
        }
        boolean[][] under = {
            {true, false, false, false, false, false},
            {true, true, false, false, false, false},
            {true, false, true, false, false, false},
            {true, false, true, true, false, false},
            {true, true, false, false, true, false},
            {true, true, false, false, false, true}};
        for (int kind = 0; kind < 6; kind++) {
            for (int k = 0; k < 6; k++) {
                due.is("taken(" + kind + ", " + k + ")", x.taken(kind, k), under[kind][k] ? kind : -13);
            }
        }
        due.is("no k", x.taken(0, 6), -2);
        due.is("no k", x.taken(0, -1), -2);
        due.is("BAD goes ahead of -11", x.taken(9, 6), -2);
        due.is("no SELLER", x.taken(6, 0), -11);
        due.is("no SELLER", x.taken(-1, 5), -11);
    }
}
