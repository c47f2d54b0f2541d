/** Promises 9 to 11: word, agree, rule; and what each kind does. */
public final class WordsTest {
    private static final Due due = new Due("WordsTest");

    public static void main(String[] args) {
        word();
        steps();
        takes();
        agree();
        rule();
        due.finish();
    }

    private static CarpetEleven one(int kind, int what) {
        CarpetEleven x = new CarpetEleven();
        x.seller(kind, what);
        return x;
    }

    private static void word() {
        CarpetEleven x = one(0, 1003);
        due.is("word(1, 0)", x.word(1, 0), -2);
        due.is("word(-1, 0)", x.word(-1, 0), -2);
        due.is("word(0, -1)", x.word(0, -1), -2);
        due.is("word(0, 2000)", x.word(0, 2000), -2);
        due.is("no CUP", x.told(0, 4), 0);
        due.is("word(0, 1999)", x.word(0, 1999), 1);
        due.is("PRICE is what was bid", x.told(0, 6), 1999);
        due.is("SAID stays", x.told(0, 3), 280);
        due.is("CUPS", x.told(0, 4), 1);
        due.is("STATE", x.word(0, 100), -3);
        due.is("BAD goes ahead of STATE", x.word(0, 2000), -2);
        due.is("CUPS stay", x.told(0, 4), 1);
        CarpetEleven y = one(0, 1000);
        for (int i = 0; i < 3; i++) {
            due.is("word(0, 0)", y.word(0, 0), 0);
        }
        int said = y.told(0, 3);
        due.is("GONE", y.word(0, 0), 2);
        due.is("SAID stays", y.told(0, 3), said);
        due.is("STATE", y.word(0, 0), -3);
        due.is("no PRICE", y.told(0, 6), -1);
    }

    private static void steps() {
        // COST 300: all say 680 at first; LEAST is 308.
        int[] behind = {680 - 145, 680 - 290, 680 - 6, 680, 680 - 290, 680 - 290 - 12};
        for (int kind = 0; kind < 6; kind++) {
            CarpetEleven x = one(kind, 3005);
            due.is("first", x.told(0, 3), 680);
            due.is("word", x.word(0, 97), 0);
            due.is("a step of kind " + kind, x.told(0, 3), behind[kind]);
        }
        CarpetEleven brother = one(4, 9009);
        brother.word(0, 1800);
        due.is("BROTHER", brother.told(0, 3), 1880 - 40);
        due.is("takes nothing below LEAST", brother.word(0, 800), 0);
        due.is("LEAST at least", brother.told(0, 3), 908 > 1840 - 520 ? 908 : 1840 - 520);
        brother.word(0, 900);
        due.is("a HALVER's and 90 at CUP 3", brother.told(0, 3), 1320 - 210 - 90);
        due.is("a STIFF's small step", one(2, 3009).word(0, 672), 0);
        CarpetEleven stiff = one(2, 3009);
        due.is("a bid near", stiff.word(0, 672), 0);
        due.is("a SELLER's step where it is less", stiff.told(0, 3), 678);
    }

    private static void takes() {
        // SELLER: 280, LEAST 108. At 241 the step is 9 (39 / 4): next 271.
        CarpetEleven x = one(0, 1003);
        due.is("241 is below 271", x.word(0, 241), 0);
        due.is("SAID", x.told(0, 3), 271);
        due.is("269: next is 271", x.word(0, 269), 0);
        due.is("271", x.word(0, 271), 1);
        // LEAST above what is SAID: even SAID isn't taken.
        CarpetEleven y = new CarpetEleven();
        Due.text(y, "least 500 * (0 < cups);first 100;pull 0;");
        y.force(1);
        for (int kind = 0; kind < 6; kind++) {
            y.seller(kind, 1009);
            due.is("SAID", y.told(kind, 3), 100);
            due.is("bid SAID to kind " + kind, y.word(kind, 100), kind == 3 ? 1 : 0);
            if (kind != 3) {
                due.is("SAID at most", y.told(kind, 3), 100);
                due.is("LEAST", y.word(kind, 500), 1);
            }
        }
        CarpetEleven slip = one(3, 1009);
        due.is("SLIP: below SAID", slip.word(0, 279), 0);
        due.is("SLIP: above SAID", slip.word(0, 290), 1);
        due.is("at the bid", slip.told(0, 6), 290);
        CarpetEleven eager = one(5, 1009);
        due.is("EAGER: below LEAST", eager.word(0, 107), 0);
        due.is("EAGER: LEAST", eager.word(0, 108), 1);
        CarpetEleven brother = one(4, 1009);
        due.is("BROTHER at CUP 1", brother.word(0, 108), 0);
        due.is("BROTHER at CUP 2", brother.word(0, 0), 0);
        due.is("BROTHER at CUP 3", brother.word(0, 0), 0);
        due.is("BROTHER at CUP 4: below LEAST", brother.word(0, 107), 0);
        due.is("BROTHER at CUP 5: LEAST", brother.word(0, 108), 1);
        CarpetEleven late = one(4, 5009);
        late.word(0, 0);
        late.set(3, 0, 500);
        late.word(0, 1000);
        due.is("1000 of 1080 is not taken at CUP 1", late.told(0, 5), 0);
        late.word(0, 600);
        late.word(0, 520);
        int said = late.told(0, 3);
        due.is("LEAST, far below SAID, is not taken at CUP 3", said > 508 ? 1 : 0, 1);
        due.is("but at CUP 4", late.word(0, 508), 1);
        // At the last CUP a bid that is taken is SOLD, and he isn't GONE.
        CarpetEleven last = one(0, 1000);
        last.word(0, 0);
        last.word(0, 0);
        last.word(0, 0);
        due.is("the last CUP", last.word(0, last.told(0, 3)), 1);
    }

    private static void agree() {
        CarpetEleven x = one(0, 1003);
        due.is("agree(1)", x.agree(1), -2);
        due.is("agree(-1)", x.agree(-1), -2);
        x.word(0, 100);
        due.is("agree", x.agree(0), 235);
        due.is("PRICE", x.told(0, 6), 235);
        due.is("SOLD", x.told(0, 5), 1);
        due.is("CUPS as they were", x.told(0, 4), 1);
        due.is("STATE", x.agree(0), -3);
        CarpetEleven gone = one(3, 0);
        gone.word(0, 0);
        gone.word(0, 0);
        gone.word(0, 0);
        due.is("STATE of one who is GONE", gone.agree(0), -3);
    }

    private static void rule() {
        CarpetEleven x = one(0, 1003);
        int[][] bad = {{1, 0, 0, 0}, {-1, 0, 0, 0}, {0, -1, 0, 0}, {0, 2000, 0, 0}, {0, 0, -1, 0},
            {0, 0, 11, 0}, {0, 0, 0, -1}, {0, 0, 0, 3}};
        for (int[] a : bad) {
            due.is("rule", x.rule(a[0], a[1], a[2], a[3]), -2);
        }
        x.set(2, 0, 1999);
        // One's first number is SAID: one agrees with no word.
        due.is("at SAID", x.rule(0, 280, 0, 1), 280);
        due.is("above SAID one agrees at SAID", x.rule(0, 1999, 0, 1), 280);
        due.is("with no CUP", x.rule(0, 1999, 0, 2), 0);
        // 0: he says 210; then 210: one agrees.
        due.is("all the way", x.rule(0, 0, 10, 1), 210);
        due.is("one CUP", x.rule(0, 0, 10, 2), 1);
        due.is("SOLD", x.rule(0, 0, 10, 0), 1);
        // 0, 210; 105, 184; 144 (39.5 cut), 174; 159, 171; 165, 170; 167, 170; 168: GONE at CUP 7.
        due.is("half the way", x.rule(0, 0, 5, 0), 2);
        due.is("GONE has no PRICE", x.rule(0, 0, 5, 1), -1);
        due.is("at CUP 7", x.rule(0, 0, 5, 2), 7);
        due.is("nothing changed", x.told(0, 4), 0);
        due.is("nothing changed", x.told(0, 3), 280);
        x.set(2, 0, 209);
        due.is("LIMIT at most", x.rule(0, 0, 10, 1) == 210 ? 1 : 0, 0);
        x.set(2, 0, 210);
        due.is("LIMIT is enough", x.rule(0, 0, 10, 1), 210);
        x.set(2, 0, 0);
        due.is("LIMIT 0", x.rule(0, 1999, 10, 0), 2);
        x.set(2, 0, 250);
        x.word(0, 0);
        due.is("from now on", x.rule(0, 210, 0, 1), 210);
        due.is("CUPS till now count", x.rule(0, 210, 0, 2), 1);
        x.agree(0);
        due.is("one SOLD: stands", x.rule(0, 0, 0, 0), 1);
        due.is("one SOLD: price", x.rule(0, 0, 0, 1), 210);
        due.is("one SOLD: cups", x.rule(0, 0, 0, 2), 1);
        CarpetEleven gone = one(3, 0);
        gone.word(0, 0);
        gone.word(0, 0);
        gone.word(0, 0);
        due.is("one GONE: stands", gone.rule(0, 1999, 0, 0), 2);
        due.is("one GONE: price", gone.rule(0, 1999, 0, 1), -1);
        due.is("one GONE: cups", gone.rule(0, 1999, 0, 2), 3);
    }
}
