/**
 * All that can be seen of an object from outside, as one text; what is asked uses the object up.
 * TEXT 1 must be READER and SELLER 0 an EAGER: by them a market tells what stands in a cell.
 */
final class Probe {
    /** By this text an EAGER sells at whatever is bid. */
    static final String READER = "least 0;first 1999;pull 0;";

    private final CarpetEleven x;
    private final StringBuilder seen = new StringBuilder();

    private Probe(CarpetEleven x) {
        this.x = x;
    }

    static String of(CarpetEleven x) {
        Probe probe = new Probe(x);
        probe.talks();
        probe.shapes();
        probe.tell("THE TAPE is a TEXT", x.text());
        probe.tell("back", x.back());
        probe.talks();
        probe.texts();
        probe.items();
        return probe.seen.toString();
    }

    private void tell(String what, long worth) {
        seen.append(what).append(' ').append(worth).append('\n');
    }

    private void talks() {
        for (int what = 0; what <= 8; what++) {
            tell("count " + what, x.count(what));
        }
        for (int i = 0; i < x.count(0); i++) {
            for (int what = 0; what <= 8; what++) {
                tell("SELLER " + i + ": " + what, x.told(i, what));
            }
        }
    }

    private void shapes() {
        for (int sheet = 0; sheet < 4; sheet++) {
            for (int sort = 0; sort < 3; sort++) {
                tell("SHEET " + sheet + " for sort " + sort, x.sellers(sheet, sort, 0, 0));
            }
            tell("SHEET " + sheet + " has", sizeOf(x, sheet));
        }
    }

    static int sizeOf(CarpetEleven x, int sheet) {
        int low = -1;
        int high = 41;
        while (high - low > 1) {
            int middle = (low + high) / 2;
            if (x.copy(sheet, middle, sheet, 0, 0) == 0) {
                low = middle;
            } else {
                high = middle;
            }
        }
        return low;
    }

    private void texts() {
        for (int text = 0; text < x.count(6); text++) {
            tell("TEXT " + text + " behind", x.force(text));
            tell("anew", x.anew(0));
            tell("LEAST", x.told(0, 7));
            x.word(0, 5);
            tell("SAID", x.told(0, 3));
            tell("LEAST", x.told(0, 7));
        }
    }

    private void items() {
        x.force(1);
        x.set(2, 0, 1999);
        for (int i = 1; i < x.count(0); i++) {
            x.agree(i);
        }
        x.anew(0);
        for (int sheet = 0; sheet < 4; sheet++) {
            int size = sizeOf(x, sheet);
            for (int i = 0; i < size; i++) {
                x.copy(sheet, i, sheet, 0, 1);
                tell("SHEET " + sheet + " item " + i, x.market(sheet, 1999, 0, 1));
                tell("and as a bid", x.judge(0, sheet) == 0 ? 0 : 1);
            }
        }
    }
}
