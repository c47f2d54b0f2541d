/** Promises 6 to 8: feed, text, force; and what a text means. */
public final class TextsTest {
    private static final Due due = new Due("TextsTest");

    public static void main(String[] args) {
        feed();
        text();
        faults();
        openOnes();
        meaning();
        names();
        force();
        due.finish();
    }

    private static void feed() {
        CarpetEleven x = new CarpetEleven();
        due.is("feed(-1)", x.feed(-1), -2);
        due.is("feed(256)", x.feed(256), -2);
        due.is("feed(MIN)", x.feed(Integer.MIN_VALUE), -2);
        for (int i = 1; i <= 160; i++) {
            due.is("feed " + i, x.feed(i == 1 ? 255 : i == 2 ? 0 : 32), i);
        }
        due.is("BAD goes ahead of FULL", x.feed(256), -2);
        due.is("feed a 161st", x.feed(32), -4);
        due.is("count(7)", x.count(7), 160);
        due.is("255 begins no TOKEN", x.text(), -100);
        due.is("THE TAPE is empty then", x.count(7), 0);
    }

    private static void text() {
        CarpetEleven x = new CarpetEleven();
        String plain = "least 1;first 2;pull 3;";
        for (int i = 1; i <= 5; i++) {
            due.is("text " + i, Due.text(x, plain), i);
            due.is("TEXTS", x.count(6), i + 1);
            due.is("THE TAPE", x.count(7), 0);
        }
        x.feed(65);
        due.is("a seventh TEXT", x.text(), -4);
        due.is("THE TAPE stays", x.count(7), 1);
        due.is("still FULL", x.text(), -4);
        CarpetEleven y = new CarpetEleven();
        StringBuilder whole = new StringBuilder(plain);
        while (whole.length() < 160) {
            whole.append(whole.length() % 2 == 0 ? ' ' : '\n');
        }
        due.is("a text of 160 bytes", Due.text(y, whole.toString()), 1);
    }

    private static void fault(String text, int place) {
        CarpetEleven x = new CarpetEleven();
        due.is("fault of '" + text + "'", Due.text(x, text), -100 - place);
        due.is("no TEXT more", x.count(6), 1);
        due.is("THE TAPE is empty", x.count(7), 0);
        due.is("a next TEXT", Due.text(x, "least 0;first 0;pull 0;"), 1);
    }

    private static void faults() {
        fault("", 0);
        fault("   ", 3);
        fault("least", 5);
        fault("least cost", 10);
        fault("least cost \n ", 13);
        fault("least cost;", 11);
        fault("least cost; first 1; pull 2", 27);
        fault("least cost; first 1; pull 2; ;", 29);
        fault("least cost; first 1; pull 2; least", 29);
        fault("first cost;", 0);
        fault(" least cost; pull", 13);
        fault("leastcost;", 0);
        fault("least costs;", 6);
        fault("least costz;", 6);
        fault("least zcost;", 6);
        fault("least xost;", 6);
        fault("least cosx;", 6);
        fault("least cost1;", 10);
        fault("least 1cost;", 7);
        fault("least 12345;", 6);
        fault("least 00001;", 6);
        fault("least 1 2;", 8);
        fault("least ;", 6);
        fault("least + 1;", 6);
        fault("least 1 +;", 9);
        fault("least 1 * + 2;", 10);
        fault("least 1 < 2 < 3;", 12);
        fault("least 1 = 2 = 3;", 12);
        fault("least 1 < not 2;", 10);
        fault("least 1 + not 2;", 10);
        fault("least - not 2;", 8);
        fault("least not;", 9);
        fault("least 1 and;", 11);
        fault("least or 1;", 6);
        fault("least 1 not 2;", 8);
        fault("least (1;", 8);
        fault("least 1);", 7);
        fault("least ();", 7);
        fault("least (1) (2);", 10);
        fault("least 1 > 2;", 8);
        fault("least Cost;", 6);
        fault("least 1\t;", 7);
        fault("least pull;", 6);
        fault("least 1 / 2;", 8);
        fault("least 1; first 2; pull 3;" + (char) 233, 25);
        // The first fault counts, though a worse one stands behind it.
        fault("least 1 2 ? 99999;", 8);
    }

    private static void openOnes() {
        CarpetEleven x = new CarpetEleven();
        due.is("five (", Due.text(x, "least (((((1 - 2)))));first 0;pull 0;"), 1);
        due.is("five not", Due.text(x, "least not not not not not 1;first 0;pull 0;"), 2);
        due.is("five -", Due.text(x, "least 1 - - - - - - 1;first 0;pull 0;"), 3);
        due.is("mixed", Due.text(x, "least not (not (-1)) + (((-1)));first 0;pull 0;"), 4);
        due.is("one behind the other",
                Due.text(x, "least (((((1)))))*(((((1)))))- -(-(-1));first 0;pull 0;"), 5);
        fault("least ((((((1))))));", 11);
        fault("least not not not not not not 1;", 26);
        fault("least ------1;", 11);
        fault("least not not not not not (1);", 26);
        fault("least not not not not not -1;", 26);
        fault("least (((((not 1)))));", 11);
        fault("least (((((-1)))));", 11);
        // A not is open till all that it belongs to ends, the other side of < with it.
        fault("least not 1 < (((((1)))));", 18);
        fault("least not 1 + (((((1)))));", 18);
        // But it is no more open behind an and.
        CarpetEleven y = new CarpetEleven();
        due.is("not ends", Due.text(y, "least not 1 and (((((1)))));first 0;pull 0;"), 1);
        due.is("- ends", Due.text(y, "least -1 * (((((1)))));first 0;pull 0;"), 2);
        due.is("( ends", Due.text(y, "least (1) * (((((1)))));first 0;pull 0;"), 3);
    }

    /** What an E is worth, seen through LEAST (0 .. 1999) of COST 100, NUMBER 3. */
    private static void worth(String e, int want) {
        CarpetEleven x = new CarpetEleven();
        due.is("text of " + e, Due.text(x, "least " + e + ";first 0;pull 0;"), 1);
        x.force(1);
        x.seller(0, 1003);
        due.is("worth of " + e, x.told(0, 7), want);
    }

    private static void meaning() {
        worth("7", 7);
        worth("0007", 7);
        worth("9999", 1999);
        worth("1 - 2", 0);
        worth("2 + 3 * 4", 14);
        worth("(2 + 3) * 4", 20);
        worth("20 - 3 - 4", 13);
        worth("20 - (3 - 4)", 21);
        worth("- 5 * - 3", 15);
        worth("3 - - 2", 5);
        worth("--5", 5);
        worth("5 or 0", 1);
        worth("0 or 0", 0);
        worth("0 or 7", 1);
        worth("5 and 6", 1);
        worth("5 and 0", 0);
        worth("0 and 5", 0);
        worth("not 5", 0);
        worth("not 0", 1);
        worth("not not 5", 1);
        worth("1 < 2", 1);
        worth("2 < 2", 0);
        worth("2 = 2", 1);
        worth("3 = 2", 0);
        worth("- 1 < 0", 1);
        worth("1 + 1 < 3", 1);
        worth("not 1 < 2", 0);
        worth("not 1 = 2", 1);
        worth("(not 0) + 5", 6);
        worth("1 or 1 and 0", 1);
        worth("(1 or 1) and 0", 0);
        worth("0 and 1 or 1", 1);
        worth("not 0 and 0", 0);
        worth("(1 < 2) * 50", 50);
        worth("0 - 1 < 0 and 7", 1);
        worth("9999 * 9999 * 9999 * 9999 < 0", 9999 * 9999 * 9999 * 9999 < 0 ? 1 : 0);
        worth("9999 * 9999 * 50 < 0", 9999 * 9999 * 50 < 0 ? 1 : 0);
        worth("9999 * 9999 * 22 < 0", 9999 * 9999 * 22 < 0 ? 1 : 0);
    }

    private static void names() {
        worth("cost", 100);
        worth("shoes", 4);
        worth("hour", 12);
        worth("bid", 0);
        worth("cups", 0);
        // By LEAST 1 he says 1 at first, and then said is 1.
        worth("said + 1", 2);
        CarpetEleven x = new CarpetEleven();
        due.is("text", Due.text(x, "least said*0+bid+100*cups;first 1000+bid+said+cups;pull bid;"), 1);
        x.force(1);
        x.seller(2, 1009);
        due.is("first with bid, said, cups 0", x.told(0, 3), 1000);
        // 1000 less 10 (a STIFF's most), 95 more by pull: 1000 at most.
        due.is("word", x.word(0, 95), 0);
        due.is("SAID", x.told(0, 3), 1000);
        // LEAST is 95 + 200 by the bid at CUP 2: still below what he says next.
        due.is("word", x.word(0, 95), 0);
        due.is("SAID", x.told(0, 3), 990);
        due.is("LEAST now", x.told(0, 7), 200);
        CarpetEleven y = new CarpetEleven();
        Due.text(y, "least 0;first 1000;pull 3;");
        Due.text(y, "least 0;first 1000;pull 999;");
        Due.text(y, "least 0;first 1000;pull 0-999;");
        int[] want = {800 + 3, 800 + 99, 800};
        for (int i = 0; i < 3; i++) {
            y.force(i + 1);
            y.seller(0, 9);
            due.is("word", y.word(i, 200), 0);
            due.is("pull at CUP 1", y.told(i, 3), want[i]);
            y.word(i, want[i] - 400);
            due.is("no pull at CUP 2", y.told(i, 3), want[i] - 100);
        }
    }

    private static void force() {
        CarpetEleven x = new CarpetEleven();
        due.is("force(1) of none", x.force(1), -2);
        due.is("force(-1)", x.force(-1), -2);
        due.is("force(0)", x.force(0), 0);
        Due.text(x, "least 5;first 6;pull 7;");
        due.is("a TEXT alone is no RULE", x.count(8), 0);
        x.seller(0, 1003);
        due.is("force(1)", x.force(1), 0);
        due.is("THE RULE", x.count(8), 1);
        due.is("SAID stays", x.told(0, 3), 280);
        due.is("LEAST is by THE RULE", x.told(0, 7), 5);
        due.is("anew", x.anew(0), 6);
        due.is("force(2) of none", x.force(2), -2);
        due.is("force(0)", x.force(0), 1);
        due.is("anew", x.anew(0), 280);
    }
}
