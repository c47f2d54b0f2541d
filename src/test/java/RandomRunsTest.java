import java.lang.reflect.InvocationTargetException;
import java.lang.reflect.Method;
import java.util.Arrays;
import java.util.Random;

/** Runs of 512 calls by fixed seeds: CarpetEleven answers as PlainCarpet does, and never throws. */
public final class RandomRunsTest {
    private static final Due due = new Due("RandomRunsTest");
    private static final int RUNS = 1500, CALLS = 512;
    private static final int[] FAR = {Integer.MIN_VALUE, Integer.MIN_VALUE + 1, -1, Integer.MAX_VALUE,
        Integer.MAX_VALUE - 1, 1 << 30, -(1 << 30), 2000, 1999, 41, 40, 256, 255};
    private static final String[] PIECES = {"least", "first", "pull", "or", "and", "not", "cost", "shoes",
        "hour", "bid", "said", "cups", "(", ")", ";", "+", "-", "*", "<", "=", " ", "\n", "0", "7", "50",
        "1234", "99999", "x", "#", "leas", "costs"};

    private static Random random;
    private static CarpetEleven x;
    private static PlainCarpet y;
    private static int left;

    public static void main(String[] args) throws Exception {
        for (int run = 0; run < RUNS && due.wrongSoFar() < 10; run++) {
            random = new Random(run);
            x = new CarpetEleven();
            y = new PlainCarpet();
            left = CALLS;
            oneRun(run);
        }
        due.finish();
    }

    private static void oneRun(int run) throws Exception {
        if (random.nextInt(3) > 0) {
            feedText(run);
            if (random.nextInt(4) > 0) {
                call(run, "force", random.nextInt(2));
            }
        }
        int early = random.nextInt(4);
        for (int i = 0; i < early; i++) {
            call(run, "seller", random.nextInt(6), random.nextInt(2500));
        }
        while (left > 0) {
            if (random.nextInt(60) == 0) {
                feedText(run);
            } else {
                oneCall(run);
            }
        }
    }

    private static int few(int top) {
        return random.nextInt(40) == 0 ? FAR[random.nextInt(FAR.length)] : random.nextInt(top + 2) - 1;
    }

    private static int up(int top) {
        return random.nextInt(40) == 0 ? FAR[random.nextInt(FAR.length)] : random.nextInt(top);
    }

    private static int who() {
        return up(Math.max(1, y.men.size()));
    }

    private static int bid() {
        int at = who();
        int said = y.told(at, 3);
        return said > 0 && random.nextInt(3) > 0 ? said - random.nextInt(1 + said / 2) + random.nextInt(3)
                : up(random.nextInt(3) == 0 ? 2000 : 400);
    }

    private static int tenths() {
        return up(11);
    }

    private static void oneCall(int run) throws Exception {
        switch (random.nextInt(30)) {
            case 0: call(run, "seller", up(6), random.nextInt(2) == 0 ? up(10000) : up(2500)); break;
            case 1: call(run, "set", few(3), who(), up(random.nextBoolean() ? 10 : 500)); break;
            case 2: case 3: call(run, "anew", who()); break;
            case 4: call(run, "told", who(), few(8)); break;
            case 5: call(run, "feed", up(256)); call(run, "text"); break;
            case 6: call(run, "force", up(y.texts.size() + 1)); break;
            case 7: case 8: case 9: case 10: call(run, "word", who(), bid()); break;
            case 11: if (random.nextInt(4) == 0) { call(run, "agree", who()); } break;
            case 12: call(run, "rule", who(), bid(), tenths(), up(3)); break;
            case 13: if (random.nextInt(3) == 0) { call(run, "bestRule", who(), up(3)); } break;
            case 14: call(run, "bestAt", who(), bid(), tenths(), up(2)); break;
            case 15: call(run, "whom", bid(), tenths()); break;
            case 16: call(run, "allInTurn", bid(), tenths(), up(2)); break;
            case 17: if (random.nextInt(4) == 0) { tellHisCost(run); } break;
            case 18: call(run, "slipped", who(), bid(), tenths()); break;
            case 19: call(run, "market", up(4), bid(), tenths(), up(3)); break;
            case 20: call(run, "judge", who(), up(4)); break;
            case 21: call(run, "drawn", who(), random.nextInt()); break;
            case 22: call(run, "odds", who(), random.nextInt(), random.nextInt(33), few(2)); break;
            case 23: if (random.nextInt(3) == 0) { call(run, "image"); } break;
            case 24: if (random.nextInt(3) == 0) { call(run, "back"); } break;
            case 25: call(run, "count", few(8)); break;
            case 26: fillSheet(run); break;
            case 27: call(run, "copy", up(4), up(6), up(4), up(6), up(6)); break;
            case 28: call(run, "sellers", up(4), up(3), up(6), up(7)); break;
            default: call(run, "taken", who(), few(5)); break;
        }
    }

    private static void fillSheet(int run) throws Exception {
        int sheet = random.nextInt(4);
        call(run, "sheet", few(3), random.nextInt(4) - 1, few(39));
        call(run, "sheet", sheet, random.nextInt(3), random.nextInt(12));
        int many = random.nextInt(12);
        for (int i = 0; i < many; i++) {
            call(run, "cell", sheet, random.nextInt(8) == 0 ? few(40) : i,
                    random.nextInt(6) == 0 ? random.nextInt() : random.nextInt(3) == 0 ? up(6) : bid());
        }
    }

    /** Rows that some cost explains, but for a slip now and then. */
    private static void tellHisCost(int run) throws Exception {
        int seller = who();
        int sheet = up(4);
        if (y.told(seller, 0) >= 0 && random.nextInt(5) > 0) {
            int many = random.nextInt(5);
            call(run, "sheet", sheet, 2 - random.nextInt(2), 2 * many);
            call(run, "anew", seller);
            for (int i = 0; i < many; i++) {
                int bid = bid();
                call(run, "word", seller, bid);
                call(run, "cell", sheet, 2 * i, bid);
                call(run, "cell", sheet, 2 * i + 1, y.told(seller, 3) + (random.nextInt(12) == 0 ? 1 : 0));
            }
        }
        call(run, "hisCost", seller, sheet, 0);
        call(run, "hisCost", seller, sheet, 1);
        call(run, "hisCost", seller, sheet, few(2));
    }

    private static void feedText(int run) throws Exception {
        StringBuilder text = new StringBuilder();
        if (random.nextInt(8) == 0) {
            int many = random.nextInt(20);
            for (int i = 0; i < many; i++) {
                text.append(PIECES[random.nextInt(PIECES.length)]).append(random.nextBoolean() ? " " : "");
            }
        } else {
            text.append("least ").append(RandomText.e(random, 3)).append(';').append("first ")
                    .append(RandomText.e(random, 3)).append(";pull ").append(RandomText.e(random, 2)).append(';');
            if (random.nextInt(3) == 0) {
                int at = random.nextInt(text.length());
                text.insert(at, PIECES[random.nextInt(PIECES.length)]);
            } else if (random.nextInt(5) == 0) {
                text.deleteCharAt(random.nextInt(text.length()));
            }
        }
        if (text.length() > 165) {
            text.setLength(165);
        }
        for (int i = 0; i < text.length(); i++) {
            call(run, "feed", text.charAt(i));
        }
        call(run, "text");
    }

    private static void call(int run, String name, int... args) throws Exception {
        if (left <= 0) {
            return;
        }
        left--;
        Class<?>[] types = new Class<?>[args.length];
        Integer[] boxed = new Integer[args.length];
        for (int i = 0; i < args.length; i++) {
            types[i] = int.class;
            boxed[i] = args[i];
        }
        String told = "run " + run + ", call " + (CALLS - left) + ": " + name + Arrays.toString(args);
        Method due1 = PlainCarpet.class.getMethod(name, types);
        Method got = CarpetEleven.class.getMethod(name, types);
        long want = ((Number) due1.invoke(y, (Object[]) boxed)).longValue();
        try {
            due.is(told, ((Number) got.invoke(x, (Object[]) boxed)).longValue(), want);
        } catch (InvocationTargetException thrown) {
            due.holds(told + " threw " + thrown.getCause(), false);
        }
    }
}
