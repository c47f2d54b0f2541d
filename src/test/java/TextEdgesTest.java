/**
 * What the document says of THE TAPE, TOKENS, TEXTS and FAULTS, sentence by sentence: each that
 * names a boundary has a test of its own.
 */
public final class TextEdgesTest {
    private static final Due due = new Due("TextEdgesTest");
    private static final String REST = "first 0;pull 0;";

    public static void main(String[] args) {
        feedsEachByte();
        tapeOf160();
        tapeIsEmptyBehindAText();
        tapeIsEmptyBehindAFault();
        nothingIsLeftOfATapeAhead();
        nothingIsLeftOfATextAhead();
        eachByteBetweenTwoDigits();
        eachByteInAWord();
        blanksMayStandBetween();
        tokensAreAsLongAsCanBe();
        fourDigitsAtMost();
        keysAndNames();
        aTextHasThreeParts();
        endsTooEarly();
        whatCantStandThere();
        theFirstFaultCounts();
        fiveAreOpen();
        theyEnd();
        sixTexts();
        fullGoesAhead();
        forcing();
        orAndNot();
        theyAreOneOrZero();
        lessAndEqual();
        sums();
        terms();
        wrapsAround();
        whatIsNotZeroIsTrue();
        due.finish();
    }

    private static int text(String text) {
        return Due.text(new CarpetEleven(), text);
    }

    private static void taken(String text) {
        due.is("text of '" + text + "'", text(text), 1);
    }

    private static void fault(String text, int place) {
        due.is("fault of '" + text + "'", text(text), -100 - place);
    }

    /** What an E is worth (0 .. 1999), as LEAST of COST 100, SHOES 4, THE HOUR 12. */
    private static void worth(String e, int want) {
        CarpetEleven x = new CarpetEleven();
        due.is("text of " + e, Due.text(x, "least " + e + ";" + REST), 1);
        x.force(1);
        x.seller(0, 1000);
        due.is("worth of " + e, x.told(0, 7), want);
    }

    // ---- THE TAPE

    private static void feedsEachByte() {
        CarpetEleven x = new CarpetEleven();
        for (int letter = 0; letter <= 255; letter++) {
            if (letter == 128) {
                x.text();
            }
            due.is("feed(" + letter + ")", x.feed(letter), 1 + letter % 128);
        }
        due.is("feed(256)", x.feed(256), -2);
        due.is("feed(-1)", x.feed(-1), -2);
        due.is("bytes", x.count(7), 128);
    }

    private static void tapeOf160() {
        CarpetEleven x = new CarpetEleven();
        for (int i = 1; i <= 160; i++) {
            due.is("byte " + i, x.feed(32), i);
        }
        due.is("byte 161", x.feed(32), -4);
        due.is("it has 160", x.count(7), 160);
        due.is("the text's size is 160", x.text(), -260);
        CarpetEleven y = new CarpetEleven();
        StringBuilder long1 = new StringBuilder("least 1;first 2;pull 3");
        while (long1.length() < 159) {
            long1.append(' ');
        }
        due.is("its last byte is read", Due.text(y, long1 + ";"), 1);
        due.is("its last byte is read", Due.text(y, long1 + "x"), -259);
        CarpetEleven z = new CarpetEleven();
        due.is("a 161st doesn't count", Due.text(z, long1 + ";?"), 1);
    }

    private static void tapeIsEmptyBehindAText() {
        CarpetEleven x = new CarpetEleven();
        Due.text(x, "least 1;first 2;pull 3;");
        due.is("empty", x.count(7), 0);
        due.is("TEXTS", x.count(6), 2);
        due.is("the first byte again", x.feed(32), 1);
    }

    private static void tapeIsEmptyBehindAFault() {
        CarpetEleven x = new CarpetEleven();
        due.is("a FAULT", Due.text(x, "least ?"), -106);
        due.is("empty", x.count(7), 0);
        due.is("TEXTS", x.count(6), 1);
        due.is("an empty one ends too early", x.text(), -100);
        due.is("and what comes is a TEXT", Due.text(x, "least 1;first 2;pull 3;"), 1);
    }

    private static void nothingIsLeftOfATapeAhead() {
        // Each is fed behind a longer tape, whose bytes would go on where this one ends.
        String[][] tapes = {
            {"least 1;first 2;pull 3456", "least 1;first 2;pull 3"},
            {"least 1;first 2;pull 34567", "least 1;first 2;pull 3456"},
            {"least 1;first 2;pull cost", "least 1;first 2;pull cos"},
            {"least 1;first 2;pull bidx", "least 1;first 2;pull bid"},
            {"least 1;first 2;pull     ", "least 1;first 2;pull "},
            {"least 1;first 2;pull 3;;", "least 1;first 2;pull 3"}};
        int[] place = {22, 25, 21, 24, 21, 22};
        for (int i = 0; i < tapes.length; i++) {
            CarpetEleven x = new CarpetEleven();
            due.holds("a FAULT", Due.text(x, tapes[i][0]) <= -100);
            due.is("fault of " + tapes[i][1], Due.text(x, tapes[i][1]), -100 - place[i]);
        }
    }

    private static void nothingIsLeftOfATextAhead() {
        // Texts of as many TOKENS as can be: 1+1+..; a third is as its own letters say.
        StringBuilder ones = new StringBuilder("least 1");
        while (ones.length() < 140) {
            ones.append("+1");
        }
        int worth = (ones.length() - 5) / 2;
        CarpetEleven x = new CarpetEleven();
        due.is("a long one", Due.text(x, ones + ";first 2;pull 3;"), 1);
        due.is("a long one with a FAULT", Due.text(x, ones + ";first 2;pull 3"), -100 - ones.length() - 15);
        due.is("another long one", Due.text(x, ones + "+1;first 7;pull 3;"), 2);
        x.seller(0, 1000);
        x.force(1);
        due.is("worth of the first", x.told(0, 7), worth);
        x.force(2);
        due.is("worth of the other", x.told(0, 7), worth + 1);
        due.is("its first", x.anew(0), worth + 1);
    }

    // ---- TOKENS

    private static void eachByteBetweenTwoDigits() {
        for (int letter = 0; letter <= 255; letter++) {
            boolean joins = letter >= '0' && letter <= '9' || "+-*<=".indexOf(letter) >= 0;
            int due1 = joins ? 1 : letter == 32 || letter == 10 || letter == ';' ? -108 : -107;
            due.is("byte " + letter, text("least 1" + (char) letter + "2;" + REST), due1);
        }
    }

    private static void eachByteInAWord() {
        for (int letter = 0; letter <= 255; letter++) {
            // bid2 is a NAME and a NUMBER, bidx a WORD that is none; all else is as between digits.
            boolean joins = "+-*<=".indexOf(letter) >= 0;
            boolean word = letter >= 'a' && letter <= 'z';
            int due1 = joins ? 1 : word ? -106 : letter == 32 || letter == 10 || letter == ';' ? -110 : -109;
            due.is("byte " + letter, text("least bid" + (char) letter + "2;" + REST), due1);
        }
    }

    private static void blanksMayStandBetween() {
        taken("least 1;first 2;pull 3;");
        taken(" \n least\n1 ;\n\nfirst 2 ; pull  3\n;\n ");
        taken("least(1);first(2);pull(3);");
        taken("least-1;first-2;pull-3;");
        for (int other : new int[] {0, 9, 11, 12, 13, 31, 33, 127, 128, 160, 255}) {
            fault("least" + (char) other + "1;" + REST, 5);
            fault((char) other + "least 1;" + REST, 0);
            fault("least 1;first 2;pull 3;" + (char) other, 23);
        }
        fault("lea st 1;" + REST, 0);
        fault("least 1 1;" + REST, 8);
    }

    private static void tokensAreAsLongAsCanBe() {
        fault("leastcost;" + REST, 0);
        fault("least costcost;" + REST, 6);
        fault("least bidor 1;" + REST, 6);
        fault("least not1;first 0;pul 0;", 19);
        fault("least notbid;" + REST, 6);
        taken("least not(bid);" + REST);
        taken("least 1or 2and 3;" + REST);
        fault("least 1or2and3cost;" + REST, 14);
        worth("12", 12);
        worth("1+2", 3);
    }

    private static void fourDigitsAtMost() {
        worth("1", 1);
        worth("0001", 1);
        worth("1999", 1999);
        worth("9999-9000", 999);
        fault("least 00000;" + REST, 6);
        fault("least 10000;" + REST, 6);
        fault("least 1+12345;" + REST, 8);
        fault("least 1234 5;" + REST, 11);
        fault("least 1;first 2;pull 12345", 21);
        fault("least 1;first 2;pull 1234", 25);
        // As many digits as stand there, and so many that an int can't hold them.
        fault("least 99999999999999999999;" + REST, 6);
        fault("least 4294967297;" + REST, 6);
        fault("least 00000000000000000001;" + REST, 6);
    }

    private static void keysAndNames() {
        for (String name : new String[] {"cost", "shoes", "hour", "bid", "said", "cups"}) {
            taken("least " + name + ";" + REST);
            fault("least " + name.substring(0, name.length() - 1) + ";" + REST, 6);
            fault("least " + name + "s;" + REST, 6);
            fault("least " + name.toUpperCase() + ";" + REST, 6);
            fault(name + " 1;" + REST, 0);
        }
        for (String key : new String[] {"least", "first", "pull", "or", "and"}) {
            fault("least " + key + ";" + REST, 6);
        }
        // A WORD that differs by one letter, wherever, is another.
        for (String name : new String[] {"cost", "shoes", "hour", "bid", "said", "cups"}) {
            for (int i = 0; i < name.length(); i++) {
                fault("least " + name.substring(0, i) + "x" + name.substring(i + 1) + ";" + REST, 6);
            }
        }
        fault("xeast 1;" + REST, 0);
        fault("leasx 1;" + REST, 0);
        fault("least 1;xirst 2;pull 3;", 8);
        fault("least 1;firsx 2;pull 3;", 8);
        fault("least 1;first 2;xull 3;", 16);
        fault("least 1;first 2;pulx 3;", 16);
        fault("least 1 xr 2;" + REST, 8);
        fault("least 1 ox 2;" + REST, 8);
        fault("least 1 xnd 2;" + REST, 8);
        fault("least 1 anx 2;" + REST, 8);
        fault("least xot 2;" + REST, 6);
        fault("least nox 2;" + REST, 6);
        fault("leas 1;" + REST, 0);
        fault("leasts 1;" + REST, 0);
        fault("least 1;firs 2;pull 3;", 8);
        fault("least 1;first 2;pul 3;", 16);
        fault("least 1;first 2;pulls 3;", 16);
        fault("least 1 o 2;" + REST, 8);
        fault("least 1 an 2;" + REST, 8);
        fault("least no 2;" + REST, 6);
        fault("a;", 0);
        fault("z;", 0);
    }

    // ---- TEXT and FAULT

    private static void aTextHasThreeParts() {
        fault("first 1;least 2;pull 3;", 0);
        fault("pull 3;", 0);
        fault("least 1;pull 3;first 2;", 8);
        fault("least 1;least 1;", 8);
        fault("least 1;first 2;first 2;", 16);
        fault("least 1;first 2;least 3;", 16);
        fault("least 1;first 2;pull 3;;", 23);
        fault("least 1;first 2;pull 3;pull 3;", 23);
        fault("least 1;first 2;pull 3; \n1", 25);
        for (String token : new String[] {"least", "first", "pull", "or", "and", "not", "cost", "shoes", "hour",
            "bid", "said", "cups", "x", "0", "1234", "12345", "(", ")", ";", "+", "-", "*", "<", "=", "?"}) {
            fault("least 1;first 2;pull 3;" + token, 23);
            fault("least 1;first 2;pull 3; " + token + " ", 24);
        }
        fault("least;first 2;pull 3;", 5);
        fault("least 1;first;pull 3;", 13);
        fault("least 1;first 2;pull;", 20);
        fault("least 1 first 2;pull 3;", 8);
        fault("least 1;first 2 pull 3;", 16);
        fault(";", 0);
        fault("1;", 0);
    }

    private static void endsTooEarly() {
        String whole = "least not(cost<7)and-bid=1or 2*3;first(said+4)-5;pull 6;";
        taken(whole);
        for (int size = 0; size < whole.length(); size++) {
            String part = whole.substring(0, size);
            int word = size;
            while (word > 0 && part.charAt(word - 1) >= 'a' && part.charAt(word - 1) <= 'z') {
                word--;
            }
            // A word that is cut is none, else it is the end that can't stand there.
            boolean cut = word < size && size < whole.length()
                    && whole.charAt(size) >= 'a' && whole.charAt(size) <= 'z';
            fault(part, cut ? word : size);
            if (!cut) {
                fault(part + " \n", size + 2);
            }
        }
    }

    private static void whatCantStandThere() {
        String[] e = {"", "+1", "*1", "<1", "=1", "or 1", "and 1", ")", "()", "least", "?"};
        for (String begin : e) {
            fault("least " + begin + ";" + REST, begin.equals("()") ? 7 : 6);
            fault("least (" + begin + ");" + REST, begin.equals("()") ? 8 : 7);
            fault("least 1+" + begin + ";" + REST, begin.equals("()") ? 9 : 8);
            fault("least 1<" + begin + ";" + REST, begin.equals("()") ? 9 : 8);
            fault("least 1 and " + begin + ";" + REST, begin.equals("()") ? 13 : 12);
            fault("least not " + begin + ";" + REST, begin.equals("()") ? 11 : 10);
            fault("least - " + begin + ";" + REST, begin.equals("()") ? 9 : 8);
        }
        for (String behind : new String[] {"1", "cost", "not", "(", ")", "least", "first", ">", ",", ":"}) {
            fault("least 1 " + behind + ";" + REST, 8);
            fault("least cost " + behind + ";" + REST, 11);
            fault("least (1) " + behind + ";" + REST, 10);
        }
        fault("least 1+not 1;" + REST, 8);
        fault("least 1*not 1;" + REST, 8);
        fault("least 1<not 1;" + REST, 8);
        fault("least 1=not 1;" + REST, 8);
        fault("least -not 1;" + REST, 7);
        taken("least 1+(not 1);" + REST);
        taken("least 1 or not 1 and not 1;" + REST);
        fault("least 1<2<3;" + REST, 9);
        fault("least 1<2=3;" + REST, 9);
        fault("least 1=2<3;" + REST, 9);
        fault("least not 1<2=3;" + REST, 13);
        taken("least (1<2)<3;" + REST);
        taken("least 1<2 and 2<3 or 3=4;" + REST);
        fault("least (1;" + REST, 8);
        fault("least ((1);" + REST, 10);
        fault("least (1));" + REST, 9);
    }

    private static void theFirstFaultCounts() {
        fault("least 1 2 ? 99999 costs (", 8);
        fault("least ? 1 2", 6);
        fault("least 99999 ?", 6);
        fault("least costs ?", 6);
        fault("least ((((((? 99999", 11);
        fault("least 1;first 2;pull 3;99999 ?", 23);
        fault("? least 1;first 2;pull 3;", 0);
    }

    // ---- five of ( , not, - are open at most

    private static void fiveAreOpen() {
        taken("least (((((1)))));" + REST);
        fault("least ((((((1))))));" + REST, 11);
        taken("least not not not not not 1;" + REST);
        fault("least not not not not not not 1;" + REST, 26);
        taken("least - - - - - 1;" + REST);
        fault("least - - - - - - 1;" + REST, 16);
        // What stands between a - and its left is no - ahead of a ONE.
        taken("least 1 - - - - - - 1;" + REST);
        fault("least 1 - - - - - - - 1;" + REST, 20);
        taken("least (((((1-1)))));" + REST);
        fault("least (((((1--1)))));" + REST, 13);
        taken("least not (not (- 1));" + REST);
        fault("least not (not (- (1)));" + REST, 18);
        fault("least not (not (- - 1));" + REST, 18);
        fault("least not not not not not (1);" + REST, 26);
        fault("least not not not not not -1;" + REST, 26);
        fault("least -----(1);" + REST, 11);
        fault("least (((((not 1)))));" + REST, 11);
        fault("least (((((-1)))));" + REST, 11);
        fault("least 1;first ((((((1))))));pull 0;", 19);
        fault("least 1;first 1;pull ((((((1))))));", 26);
    }

    private static void theyEnd() {
        // A ( till its ).
        taken("least (((((1))))) + (((((1))))) * (((((1)))));" + REST);
        taken("least ((((1) + (1)) + (1)) + (1));" + REST);
        taken("least ((((1) + ((1)))));" + REST);
        fault("least ((((1) + (((1))))));" + REST, 17);
        // A - till its ONE ends.
        taken("least -1 + (((((1)))));" + REST);
        taken("least -----1 + -----1 - -----1;" + REST);
        fault("least -(((((1)))));" + REST, 11);
        taken("least -((((1)))) * -((((1))));" + REST);
        // A not till its NOT ends: behind < and = it is open still, behind and, or no more.
        fault("least not 1 < (((((1)))));" + REST, 18);
        fault("least not 1 = (((((1)))));" + REST, 18);
        fault("least not 1 + (((((1)))));" + REST, 18);
        fault("least not 1 * (((((1)))));" + REST, 18);
        fault("least not (((((1)))));" + REST, 14);
        taken("least not 1 < ((((1))));" + REST);
        taken("least not 1 and (((((1)))));" + REST);
        taken("least not 1 or (((((1)))));" + REST);
        taken("least not not not not not 1 and not not not not not 1;" + REST);
        taken("least (not not not not 1) + (((((1)))));" + REST);
        // Each E begins with none open.
        taken("least (((((1)))));first (((((1)))));pull -----1;");
    }

    // ---- six TEXTS

    private static void sixTexts() {
        CarpetEleven x = new CarpetEleven();
        for (int i = 1; i <= 5; i++) {
            due.is("no TEXT " + i + " yet", x.force(i), -2);
            due.is("TEXT " + i, Due.text(x, "least " + i + ";first 0;pull 0;"), i);
            due.is("TEXTS", x.count(6), i + 1);
        }
        due.is("a seventh", Due.text(x, "least 6;first 0;pull 0;"), -4);
        due.is("TEXTS", x.count(6), 6);
        due.is("THE TAPE stays", x.count(7), 23);
        due.is("no TEXT 6", x.force(6), -2);
        x.seller(0, 1000);
        for (int i = 1; i <= 5; i++) {
            due.is("was", x.force(i), i - 1);
            due.is("each is as it was read", x.told(0, 7), i);
        }
    }

    private static void fullGoesAhead() {
        CarpetEleven x = new CarpetEleven();
        for (int i = 1; i <= 5; i++) {
            Due.text(x, "least 1;first 0;pull 0;");
        }
        due.is("an empty one", x.text(), -4);
        x.feed('?');
        due.is("a FAULT", x.text(), -4);
        due.is("it stays", x.count(7), 1);
        due.is("more comes behind it", x.feed('?'), 2);
    }

    private static void forcing() {
        CarpetEleven x = new CarpetEleven();
        x.seller(0, 1000);
        due.is("TEXT 0", x.force(0), 0);
        due.is("no TEXT 1", x.force(1), -2);
        due.is("no TEXT -1", x.force(-1), -2);
        Due.text(x, "least 33;first 44;pull 0;");
        due.is("it isn't THE RULE", x.told(0, 7), 108);
        due.is("TEXT 1", x.force(1), 0);
        due.is("it is THE RULE", x.told(0, 7), 33);
        due.is("what he SAID stays", x.told(0, 3), 280);
        due.is("TEXT 1 again", x.force(1), 1);
        due.is("THE RULE", x.count(8), 1);
        due.is("anew", x.anew(0), 44);
        due.is("TEXT 0 again", x.force(0), 1);
        due.is("anew", x.anew(0), 280);
    }

    // ---- what an E is worth

    private static void orAndNot() {
        worth("0 or 0", 0);
        worth("0 or 5", 1);
        worth("5 or 0", 1);
        worth("5 or 7", 1);
        worth("0 or 0 or 3", 1);
        worth("0 and 0", 0);
        worth("0 and 5", 0);
        worth("5 and 0", 0);
        worth("5 and 7", 1);
        worth("1 and 2 and 0", 0);
        worth("not 0", 1);
        worth("not 1", 0);
        worth("not 7", 0);
        worth("not not 7", 1);
        // AND binds nearer than or, not nearer than and, < nearer than not.
        worth("1 or 0 and 0", 1);
        worth("0 and 0 or 1", 1);
        worth("not 0 or 1", 1);
        worth("not 1 and 0", 0);
        worth("not (1 and 0)", 1);
        worth("not 5 < 3", 1);
        worth("(not 5) < 3", 1);
        worth("not 2 < 3", 0);
        worth("(not 2) < 3", 1);
        worth("not 0 + 1", 0);
        worth("(not 0) + 1", 2);
        worth("5", 5);
        worth("(5)", 5);
    }

    private static void theyAreOneOrZero() {
        // Behind 5 +, so that what is below 0 would be seen.
        String[] zero = {"0 or 0", "0 and 0", "0 and 7", "7 and 0", "not 1", "not 7", "2 < 2", "3 < 2", "2 = 3"};
        String[] one = {"0 or 7", "7 or 0", "7 or 8", "7 and 8", "not 0", "2 < 3", "2 = 2"};
        for (String e : zero) {
            worth("5 + (" + e + ")", 5);
            worth("5 - (" + e + ")", 5);
        }
        for (String e : one) {
            worth("5 + (" + e + ")", 6);
            worth("5 - (" + e + ")", 4);
        }
        worth("5 + 0 * 7", 5);
        worth("5 + (-0)", 5);
    }

    private static void lessAndEqual() {
        worth("4 < 5", 1);
        worth("5 < 5", 0);
        worth("6 < 5", 0);
        worth("4 = 5", 0);
        worth("5 = 5", 1);
        worth("6 = 5", 0);
        worth("0 - 1 < 0", 1);
        worth("0 < 0 - 1", 0);
        worth("1 + 1 = 2 * 1", 1);
        worth("cost < 101", 1);
        worth("cost < 100", 0);
        worth("cost = 100", 1);
        worth("(3 < 4) = (4 < 5)", 1);
        worth("(3 = 4) < (4 = 4)", 1);
    }

    private static void sums() {
        worth("10 - 3 - 2", 5);
        worth("10 - (3 - 2)", 9);
        worth("10 - 3 + 2", 9);
        worth("10 + 3 - 2", 11);
        worth("10 - - 3", 13);
        worth("10 + - 3", 7);
        worth("- 3 + 10", 7);
        worth("- (3 - 10)", 7);
        worth("--7", 7);
        worth("---7 + 10", 3);
    }

    private static void terms() {
        worth("2 + 3 * 4", 14);
        worth("2 * 3 + 4", 10);
        worth("(2 + 3) * 4", 20);
        worth("2 * 3 * 4", 24);
        worth("20 - 2 * 3", 14);
        worth("- 2 * - 3", 6);
        worth("2 * - 3 + 10", 4);
        worth("cost * shoes + hour", 412);
    }

    private static void wrapsAround() {
        // 2^31 - 1 is 46340 * 46340 + 88047; 46340 is 9999 * 4 + 6344, 88047 is 9999 * 8 + 8055.
        String square = "(9999*4+6344)*(9999*4+6344)";
        String top = "(" + square + "+9999*8+8055)";
        worth(top + " < 0", 0);
        worth(top, 1999);
        worth(top + " + 1 < 0", 1);
        worth(top + " + 1", 0);
        worth("- " + top + " - 1 < 0", 1);
        worth("- " + top + " - 2 = " + top, 1);
        worth("- (" + top + " + 1) < 0", 1);
        worth("(" + top + " + 1) * (0 - 1) < 0", 1);
        worth(top + " * 2 = 0 - 2", 1);
        // The least is below the greatest, though their difference wraps.
        worth(top + " + 1 < " + top, 1);
        worth(top + " < " + top + " + 1", 0);
        worth("0 - 2 < " + top, 1);
        worth("9999 * 9999 * 9999 * 9999 < 0", 9999 * 9999 * 9999 * 9999 < 0 ? 1 : 0);
        worth("9999 * 9999 * 22 < 0", 1);
        worth("9999 * 9999 * 21 < 0", 0);
    }

    private static void whatIsNotZeroIsTrue() {
        worth("- 1 or 0", 1);
        worth("- 1 and 1", 1);
        worth("not - 1", 0);
        worth("not not - 1", 1);
        // 65536 * 65536 is 0.
        String power = "(4096*16)";
        worth("not " + power + "*" + power, 1);
        worth(power + "*" + power + " or 0", 0);
        worth("not " + power + "*4096*8", 0);
    }
}
