/**
 * Each refusal that a promise names, at its edge on either side, in the order in which it is
 * named; and that a refused call, and one that only thinks or tells, changes nothing.
 */
public final class RefusalsTest {
    private static final Due due = new Due("RefusalsTest");
    private static final Twins twins = new Twins(due);
    private static final int MIN = Integer.MIN_VALUE, MAX = Integer.MAX_VALUE;
    private static final int NONE = -1, BAD = -2, STATE = -3, FULL = -4;
    private static final int NOTHING = -11, OUTSIDE = -12, UNLIKE = -13, BELOW = -14;
    private static final int[] NO_SELLER = {-1, 4, 6, MIN, MAX};
    private static final int[] NO_SHEET = {-1, 4, MIN, MAX};
    private static final int[] NO_A = {-1, 2000, MIN, MAX};
    private static final int[] NO_P = {-1, 11, MIN, MAX};

    public static void main(String[] args) {
        seller();
        set();
        anewAndTold();
        feed();
        text();
        force();
        word();
        agree();
        rule();
        bestRule();
        bestAt();
        whomAndAllInTurn();
        hisCost();
        slipped();
        market();
        judge();
        drawn();
        odds();
        back();
        count();
        sheet();
        cell();
        copy();
        sellers();
        taken();
        thoughts();
        wouldBeTaken();
        due.finish();
    }

    /** Refused where there is much to change, with an image and without one. */
    private static void refused(long want, String name, int... args) {
        twins.changesNothing(Twins::some, want, name, args);
        twins.changesNothing(Twins::kept, want, name, args);
    }

    private static void full(long want, String name, int... args) {
        twins.changesNothing(Twins::fullOfSellers, want, name, args);
    }

    private static void seller() {
        for (int kind : new int[] {-1, 6, MIN, MAX}) {
            refused(BAD, "seller", kind, 1000);
        }
        for (int what : new int[] {-1, 10000, MIN, MAX}) {
            refused(BAD, "seller", 0, what);
        }
        full(FULL, "seller", 0, 0);
        full(FULL, "seller", 5, 9999);
        full(BAD, "seller", 6, 0);
        full(BAD, "seller", -1, 0);
        full(BAD, "seller", 0, 10000);
        full(BAD, "seller", 0, -1);
    }

    private static void set() {
        int[] above = {10, 24, 2000, 1000};
        for (int what = 0; what < 4; what++) {
            for (int v : new int[] {-1, above[what], MIN, MAX}) {
                refused(BAD, "set", what, 0, v);
            }
        }
        for (int of : new int[] {-1, 6, MIN, MAX}) {
            refused(BAD, "set", 3, of, 5);
        }
        twins.changesNothing(Twins::some, BAD, "set", 3, 4, 5);
        twins.changesNothing(Twins::kept, BAD, "set", 3, 5, 5);
        for (int what : new int[] {-1, 4, MIN, MAX}) {
            refused(BAD, "set", what, 0, 5);
        }
    }

    private static void anewAndTold() {
        twins.changesNothing(Twins::kept, BAD, "anew", 5);
        for (int seller : NO_SELLER) {
            twins.changesNothing(Twins::some, BAD, "anew", seller);
            twins.changesNothing(Twins::some, BAD, "told", seller, 0);
        }
        for (int what : new int[] {-1, 9, MIN, MAX}) {
            refused(BAD, "told", 0, what);
        }
    }

    private static void feed() {
        for (int letter : new int[] {-1, 256, MIN, MAX}) {
            refused(BAD, "feed", letter);
            twins.changesNothing(Twins::fullOfTexts, BAD, "feed", letter);
        }
        twins.changesNothing(Twins::fullOfTexts, FULL, "feed", 0);
        twins.changesNothing(Twins::fullOfTexts, FULL, "feed", 255);
    }

    private static void text() {
        // The tape holds blanks alone, so it would be a FAULT; FULL goes ahead, and it stays.
        twins.changesNothing(Twins::fullOfTexts, FULL, "text");
        CarpetEleven x = Twins.fullOfTexts();
        due.is("FULL", x.text(), FULL);
        due.is("THE TAPE stays", x.count(7), 160);
        due.is("no TEXT more", x.count(6), 6);
    }

    private static void force() {
        for (int text : new int[] {-1, 2, 6, MIN, MAX}) {
            refused(BAD, "force", text);
        }
        for (int text : new int[] {-1, 6, MIN, MAX}) {
            twins.changesNothing(Twins::fullOfTexts, BAD, "force", text);
        }
    }

    private static void word() {
        for (int seller : NO_SELLER) {
            twins.changesNothing(Twins::some, BAD, "word", seller, 100);
        }
        for (int bid : new int[] {-1, 2000, MIN, MAX}) {
            refused(BAD, "word", 0, bid);
            refused(BAD, "word", 1, bid);
            // BAD goes ahead of STATE: one SOLD, one GONE.
            twins.changesNothing(Twins::some, BAD, "word", 2, bid);
            twins.changesNothing(Twins::some, BAD, "word", 3, bid);
        }
        for (int bid : new int[] {0, 1, 1998, 1999}) {
            twins.changesNothing(Twins::some, STATE, "word", 2, bid);
            twins.changesNothing(Twins::some, STATE, "word", 3, bid);
        }
    }

    private static void agree() {
        for (int seller : NO_SELLER) {
            twins.changesNothing(Twins::some, BAD, "agree", seller);
        }
        twins.changesNothing(Twins::kept, BAD, "agree", 5);
        twins.changesNothing(Twins::some, STATE, "agree", 2);
        twins.changesNothing(Twins::some, STATE, "agree", 3);
    }

    private static void badRules(String name, int... around) {
        // around: the call's arguments with a and p behind the first of them.
        for (int a : NO_A) {
            int[] args = around.clone();
            args[1] = a;
            refused(BAD, name, args);
        }
        for (int p : NO_P) {
            int[] args = around.clone();
            args[2] = p;
            refused(BAD, name, args);
        }
    }

    private static void rule() {
        for (int seller : NO_SELLER) {
            twins.changesNothing(Twins::some, BAD, "rule", seller, 0, 0, 0);
        }
        badRules("rule", 1, 10, 5, 0);
        for (int what : new int[] {-1, 3, MIN, MAX}) {
            refused(BAD, "rule", 1, 10, 5, what);
        }
        twins.changesNothing(Twins::some, NONE, "rule", 3, 10, 5, 1);
    }

    private static void bestRule() {
        for (int seller : NO_SELLER) {
            twins.changesNothing(Twins::some, BAD, "bestRule", seller, 0);
        }
        for (int what : new int[] {-1, 3, MIN, MAX}) {
            refused(BAD, "bestRule", 1, what);
            // BAD goes ahead of NONE: of one SOLD there is none.
            twins.changesNothing(Twins::some, BAD, "bestRule", 2, what);
        }
        for (int what = 0; what < 3; what++) {
            twins.changesNothing(Twins::some, NONE, "bestRule", 2, what);
            twins.changesNothing(Twins::some, NONE, "bestRule", 3, what);
        }
    }

    private static void bestAt() {
        for (int seller : NO_SELLER) {
            twins.changesNothing(Twins::some, BAD, "bestAt", seller, 0, 0, 0);
        }
        badRules("bestAt", 1, 10, 5, 0);
        badRules("bestAt", 1, 10, 5, 1);
        for (int what : new int[] {-1, 2, MIN, MAX}) {
            refused(BAD, "bestAt", 1, 10, 5, what);
        }
    }

    private static void whomAndAllInTurn() {
        for (int a : NO_A) {
            refused(BAD, "whom", a, 5);
            refused(BAD, "allInTurn", a, 5, 0);
        }
        for (int p : NO_P) {
            refused(BAD, "whom", 10, p);
            refused(BAD, "allInTurn", 10, p, 0);
        }
        for (int what : new int[] {-1, 2, MIN, MAX}) {
            refused(BAD, "allInTurn", 10, 5, what);
        }
    }

    private static void hisCost() {
        // SHEET 0 has five numbers, SHEET 1 four, SHEET 2 is missing.
        for (int seller : NO_SELLER) {
            twins.changesNothing(Twins::some, BAD, "hisCost", seller, 1, 0);
            twins.changesNothing(Twins::some, BAD, "hisCost", seller, 2, 0);
            twins.changesNothing(Twins::some, BAD, "hisCost", seller, 0, 0);
        }
        for (int sheet : NO_SHEET) {
            refused(BAD, "hisCost", 1, sheet, 0);
        }
        for (int what : new int[] {-1, 3, MIN, MAX}) {
            refused(BAD, "hisCost", 1, 1, what);
            refused(BAD, "hisCost", 1, 2, what);
        }
        for (int what = 0; what < 3; what++) {
            refused(NOTHING, "hisCost", 1, 2, what);
            refused(BAD, "hisCost", 1, 0, what);
        }
    }

    private static void slipped() {
        for (int seller : NO_SELLER) {
            twins.changesNothing(Twins::some, BAD, "slipped", seller, 0, 0);
        }
        badRules("slipped", 1, 10, 5);
    }

    private static void market() {
        for (int sheet : NO_SHEET) {
            refused(BAD, "market", sheet, 10, 5, 0);
        }
        badRules("market", 0, 10, 5, 0);
        // BAD goes ahead of -11: SHEET 2 is missing.
        badRules("market", 2, 10, 5, 0);
        for (int what : new int[] {-1, 3, MIN, MAX}) {
            refused(BAD, "market", 0, 10, 5, what);
            refused(BAD, "market", 2, 10, 5, what);
        }
        for (int what = 0; what < 3; what++) {
            refused(NOTHING, "market", 2, 10, 5, what);
        }
    }

    private static void judge() {
        for (int seller : NO_SELLER) {
            twins.changesNothing(Twins::some, BAD, "judge", seller, 0);
            twins.changesNothing(Twins::some, BAD, "judge", seller, 2);
        }
        for (int sheet : NO_SHEET) {
            refused(BAD, "judge", 1, sheet);
            twins.changesNothing(Twins::some, BAD, "judge", 2, sheet);
        }
        refused(NOTHING, "judge", 1, 2);
        twins.changesNothing(Twins::some, NOTHING, "judge", 2, 2);
    }

    private static void drawn() {
        for (int seller : NO_SELLER) {
            twins.changesNothing(Twins::some, BAD, "drawn", seller, 5);
        }
        twins.changesNothing(Twins::kept, BAD, "drawn", 5, 5);
    }

    private static void odds() {
        long no = CarpetEleven.NO;
        for (int seller : NO_SELLER) {
            twins.changesNothing(Twins::some, no, "odds", seller, 5, 10, 0);
        }
        for (int many : new int[] {-1, 0, 31, MIN, MAX}) {
            refused(no, "odds", 1, 5, many, 0);
            refused(no, "odds", 1, 5, many, 1);
        }
        for (int part : new int[] {-1, 2, MIN, MAX}) {
            refused(no, "odds", 1, 5, 10, part);
        }
    }

    private static void back() {
        twins.changesNothing(Twins::some, STATE, "back");
        twins.changesNothing(Twins::fullOfSellers, STATE, "back");
    }

    private static void count() {
        for (int what : new int[] {-1, 9, MIN, MAX}) {
            refused(BAD, "count", what);
        }
    }

    private static void sheet() {
        for (int sheet : NO_SHEET) {
            refused(BAD, "sheet", sheet, 0, 5);
            refused(BAD, "sheet", sheet, -1, 5);
            refused(BAD, "sheet", sheet, 0, -1);
        }
        for (int sheet = 0; sheet < 4; sheet++) {
            for (int sort : new int[] {-2, 3, MIN, MAX}) {
                refused(BAD, "sheet", sheet, sort, 5);
                refused(BAD, "sheet", sheet, sort, -1);
            }
            for (int sort = 0; sort < 3; sort++) {
                refused(BAD, "sheet", sheet, sort, 41);
                refused(BAD, "sheet", sheet, sort, MAX);
                refused(BELOW, "sheet", sheet, sort, -1);
                refused(BELOW, "sheet", sheet, sort, MIN);
            }
        }
    }

    private static void cell() {
        for (int sheet : NO_SHEET) {
            refused(BAD, "cell", sheet, 0, 5);
            refused(BAD, "cell", sheet, -1, 5);
        }
        for (int i : new int[] {-1, 0, 40, MIN, MAX}) {
            refused(NOTHING, "cell", 2, i, 5);
        }
        for (int i : new int[] {-1, 5, 40, MIN, MAX}) {
            refused(OUTSIDE, "cell", 0, i, 7);
        }
        for (int i : new int[] {-1, 4, 5, MIN, MAX}) {
            refused(OUTSIDE, "cell", 1, i, 7);
        }
        full(OUTSIDE, "cell", 0, 40, 7);
        full(OUTSIDE, "cell", 1, 0, 7);
    }

    private static void copy() {
        // SHEET 0: five ints; 1: four shorts; 2: missing; 3: four bytes.
        for (int sheet : NO_SHEET) {
            refused(BAD, "copy", sheet, 0, 0, 0, 1);
            refused(BAD, "copy", 0, 0, sheet, 0, 1);
            refused(BAD, "copy", sheet, 0, 2, 0, 1);
            refused(BAD, "copy", 2, 0, sheet, 0, -1);
        }
        refused(NOTHING, "copy", 2, 0, 0, 0, 1);
        refused(NOTHING, "copy", 0, 0, 2, 0, 1);
        refused(NOTHING, "copy", 2, 0, 2, 0, 0);
        refused(NOTHING, "copy", 0, -1, 2, 99, -1);
        refused(UNLIKE, "copy", 0, 0, 1, 0, 1);
        refused(UNLIKE, "copy", 1, 0, 3, 0, 0);
        refused(UNLIKE, "copy", 3, -1, 0, 99, -1);
        int[][] outside = {{-1, 0, 1}, {0, -1, 1}, {0, 0, -1}, {0, 0, 6}, {1, 0, 5}, {0, 1, 5}, {5, 0, 1},
            {0, 5, 1}, {6, 0, 0}, {0, 6, 0}, {-1, 0, 0}, {0, -1, 0}, {MAX, 0, 1}, {0, MAX, 1}, {0, 0, MAX},
            {0, 0, MIN}, {MIN, 0, 1}, {0, MIN, 1}, {MAX, MAX, MAX}, {MIN, MIN, MIN}, {5, 5, MIN}};
        for (int[] o : outside) {
            refused(OUTSIDE, "copy", 0, o[0], 0, o[1], o[2]);
        }
        // The other one is smaller, or the one that is copied from.
        CarpetEleven x = new CarpetEleven();
        x.sheet(0, 0, 3);
        x.sheet(1, 0, 2);
        due.is("three don't fit into two", x.copy(0, 0, 1, 0, 3), OUTSIDE);
        due.is("two have no three", x.copy(1, 0, 0, 0, 3), OUTSIDE);
        due.is("two fit", x.copy(0, 1, 1, 0, 2), 2);
        due.is("two fit", x.copy(1, 0, 0, 1, 2), 2);
    }

    private static void sellers() {
        for (int sheet : NO_SHEET) {
            refused(BAD, "sellers", sheet, 1, 0, 1);
        }
        for (int sort : new int[] {-1, 3, MIN, MAX}) {
            refused(BAD, "sellers", 1, sort, 0, 1);
            refused(BAD, "sellers", 2, sort, 0, 1);
        }
        for (int n : new int[] {-1, 7, MIN, MAX}) {
            refused(BAD, "sellers", 1, 1, 0, n);
            refused(BAD, "sellers", 1, 0, 0, n);
            refused(BAD, "sellers", 2, 1, 0, n);
        }
        for (int sort = 0; sort < 3; sort++) {
            refused(NOTHING, "sellers", 2, sort, 0, 1);
            refused(NOTHING, "sellers", 2, sort, 99, 0);
            if (sort != 1) {
                refused(UNLIKE, "sellers", 1, sort, 0, 1);
                refused(UNLIKE, "sellers", 1, sort, 99, 1);
            }
        }
        for (int from : new int[] {-2, -1, 3, 4, 40, MIN, MAX, MAX - 1}) {
            refused(OUTSIDE, "sellers", 1, 1, from, 1);
            refused(OUTSIDE, "sellers", 1, 1, from, 6);
        }
        // All are left out when it is FULL; a place outside still is one.
        full(0, "sellers", 2, 1, 0, 1);
        full(OUTSIDE, "sellers", 2, 1, 0, 2);
        full(OUTSIDE, "sellers", 1, 1, 0, 1);
        full(0, "sellers", 0, 2, 28, 6);
        full(OUTSIDE, "sellers", 0, 2, 29, 6);
    }

    private static void taken() {
        for (int k : new int[] {-1, 6, MIN, MAX}) {
            refused(BAD, "taken", 0, k);
            refused(BAD, "taken", 6, k);
        }
        for (int seller : NO_SELLER) {
            for (int k = 0; k < 6; k++) {
                twins.changesNothing(Twins::some, NOTHING, "taken", seller, k);
            }
        }
        refused(UNLIKE, "taken", 1, 1);
        refused(UNLIKE, "taken", 2, 3);
    }

    /** What is only thought of, or told, changes nothing. */
    private static void thoughts() {
        thought(Twins::some, 4);
        thought(Twins::kept, 5);
        thought(Twins::fullOfSellers, 6);
        for (int what = 0; what <= 8; what++) {
            twins.isThoughtOnly(Twins::fullOfTexts, "count", what);
        }
    }

    private static void thought(Twins.Setup setup, int sellers) {
        for (int seller = 0; seller < sellers; seller++) {
            for (int what = 0; what < 3; what++) {
                twins.isThoughtOnly(setup, "rule", seller, 20, 5, what);
                twins.isThoughtOnly(setup, "bestRule", seller, what);
                twins.isThoughtOnly(setup, "hisCost", seller, 1, what);
            }
            twins.isThoughtOnly(setup, "bestAt", seller, 20, 9, 0);
            twins.isThoughtOnly(setup, "bestAt", seller, 20, 9, 1);
            twins.isThoughtOnly(setup, "slipped", seller, 20, 10);
            twins.isThoughtOnly(setup, "judge", seller, 0);
            twins.isThoughtOnly(setup, "judge", seller, 1);
            twins.isThoughtOnly(setup, "drawn", seller, 7);
            twins.isThoughtOnly(setup, "odds", seller, 7, 30, seller % 2);
            twins.isThoughtOnly(setup, "told", seller, 7);
            twins.isThoughtOnly(setup, "taken", seller, 0);
        }
        for (int what = 0; what < 3; what++) {
            twins.isThoughtOnly(setup, "market", 0, 50, 9, what);
            twins.isThoughtOnly(setup, "market", 1, 1999, 10, what);
        }
        twins.isThoughtOnly(setup, "whom", 20, 9);
        twins.isThoughtOnly(setup, "allInTurn", 20, 9, 0);
        twins.isThoughtOnly(setup, "allInTurn", 20, 9, 1);
    }

    /** The twins and the probe see what does change: else all of the above would say nothing. */
    private static void wouldBeTaken() {
        seen("seller", 0, 1000);
        seen("anew", 2);
        seen("feed", 32);
        seen("text");
        seen("force", 1);
        seen("word", 1, 20);
        seen("agree", 1);
        seen("cell", 0, 3, 9);
        seen("set", 0, 0, 9);
        seen("set", 1, 0, 23);
        seen("set", 2, 0, 301);
        seen("set", 3, 1, 101);
        seen("sheet", 2, 0, 0);
        seen("sheet", 0, 2, 5);
        seen("sheet", 0, -1, 0);
        seen("copy", 0, 0, 0, 1, 1);
        seen("sellers", 1, 1, 0, 1);
        seen("image");
    }

    private static void seen(String name, int... args) {
        CarpetEleven asked = Twins.some();
        due.holds(name + " is taken", Twins.call(asked, name, args) >= (name.equals("text") ? -200 : 0));
        due.holds(name + " is seen", !Probe.of(asked).equals(Probe.of(Twins.some())));
    }
}
